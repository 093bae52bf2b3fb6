import java.util.Random;

/** Many random runs of calls, each answer held against the one of Plain. */
final class PlainTest {
    private static final String[] PEOPLE = {"f", "c", "h"};
    private static final String KINDS = "letm";

    private final Random random;
    private final ShornSins x = new ShornSins();
    private final Plain y = new Plain();
    private final int run;

    private PlainTest(int run) {
        this.run = run;
        this.random = new Random(run);
    }

    public static void main(String[] args) {
        int runs = args.length > 0 ? Integer.parseInt(args[0]) : 400;
        for (int run = 0; run < runs; run++) {
            new PlainTest(run).calls();
        }
        Due.end();
    }

    private void due(String call, long got, long want) {
        Due.is("run " + run + ": " + call, got, want);
    }

    /** Mostly a number as told, now and then one outside, rarely a far one. */
    private int number(int least, int most) {
        int dice = random.nextInt(60);
        if (dice == 0) {
            return random.nextBoolean() ? Integer.MIN_VALUE : Integer.MAX_VALUE;
        }
        if (dice == 1) {
            return least - 1;
        }
        if (dice == 2) {
            return most + 1;
        }
        return least + random.nextInt(most - least + 1);
    }

    private void typeAll(int text, String bytes) {
        for (int i = 0; i < bytes.length(); i++) {
            due("type", x.type(text, bytes.charAt(i)), y.type(text, bytes.charAt(i)));
        }
    }

    /** Few counties and few months make people and things meet. */
    private void calls() {
        int counties = 1 + random.nextInt(4);
        int months = random.nextInt(3) == 0 ? 24 : 3 + random.nextInt(10);
        StringBuilder people = new StringBuilder();
        int many = random.nextInt(9);
        for (int p = 0; p < many; p++) {
            people.append(p > 0 ? ";" : "").append(PEOPLE[random.nextInt(3)]);
            people.append(random.nextInt(counties)).append(random.nextInt(10));
        }
        StringBuilder deeds = new StringBuilder();
        int done = random.nextInt(11);
        for (int d = 0; d < done; d++) {
            deeds.append(d > 0 ? ";" : "").append((char) ('a' + random.nextInt(months)));
            deeds.append(random.nextInt(random.nextInt(6) == 0 ? 8 : Math.max(1, many)));
            deeds.append(KINDS.charAt(random.nextInt(4)));
        }
        typeAll(0, people.toString());
        typeAll(1, deeds.toString());
        for (int i = random.nextInt(9); i > 0; i--) {
            int month = random.nextInt(months);
            int county = random.nextInt(counties);
            int pace = 1 + random.nextInt(4);
            due("round", x.round(month, county, pace), y.round(month, county, pace));
            if (random.nextInt(2) == 0) {
                due("frost", x.frost(month), y.frost(month));
            }
        }
        for (int i = random.nextInt(6); i > 0; i--) {
            int month = random.nextInt(months);
            int who = random.nextInt(8);
            int county = random.nextInt(counties);
            due("journey", x.journey(month, who, county), y.journey(month, who, county));
        }
        if (random.nextInt(2) == 0) {
            int cold = random.nextInt(12);
            due("set", x.set(1, cold), y.set(1, cold));
        }
        for (int i = 0; i < 110; i++) {
            call(months, counties);
        }
        due("digest()", x.digest(), y.digest());
    }

    private void call(int months, int counties) {
        switch (random.nextInt(9)) {
            case 0: tell(months, counties); break;
            case 1: sheets(); break;
            case 2: sheets(); break;
            case 3: plans(); break;
            case 4: witness(); break;
            case 5: witness(); break;
            default: months();
        }
    }

    private void tell(int months, int counties) {
        int text = number(0, 1);
        int month = number(0, months - 1);
        int county = number(0, counties - 1);
        switch (random.nextInt(12)) {
            case 0: {
                int b = random.nextInt(3) == 0 ? number(0, 255) : "fch0123;alet".charAt(random.nextInt(12));
                due("type(" + text + ", " + b + ")", x.type(text, b), y.type(text, b));
                due("undo(" + text + ")", x.undo(text), y.undo(text));
                break;
            }
            case 1: {
                due("undo(" + text + ")", x.undo(text), y.undo(text));
                int b = text == 0 ? '0' + random.nextInt(10) : KINDS.charAt(random.nextInt(4));
                due("type(" + text + ", " + b + ")", x.type(text, b), y.type(text, b));
                break;
            }
            case 2: {
                if (random.nextInt(6) == 0) {
                    due("wipe(" + text + ")", x.wipe(text), y.wipe(text));
                    typeAll(0, "f05;c12;h09");
                }
                break;
            }
            case 3:
            case 4: {
                int what = number(0, 1);
                int v = number(0, what == 0 ? 9 : 30);
                due("set(" + what + ", " + v + ")", x.set(what, v), y.set(what, v));
                break;
            }
            case 5:
            case 6: {
                int pace = number(1, 4);
                due("round(" + month + ", " + county + ", " + pace + ")",
                        x.round(month, county, pace), y.round(month, county, pace));
                break;
            }
            case 7: {
                int who = number(0, 7);
                due("journey(" + month + ", " + who + ", " + county + ")",
                        x.journey(month, who, county), y.journey(month, who, county));
                break;
            }
            case 8: {
                due("frost(" + month + ")", x.frost(month), y.frost(month));
                break;
            }
            case 9: {
                int s = number(0, 3);
                fillWithRounds(s, months, counties);
                due("read(" + s + ")", x.read(s), y.read(s));
                break;
            }
            default: {
                int what = number(0, 2);
                due("back(" + what + ")", x.back(what), y.back(what));
            }
        }
    }

    /** By chance alone hardly a sheet would hold rounds that may be. */
    private void fillWithRounds(int s, int months, int counties) {
        int form = random.nextInt(3);
        int n = random.nextInt(14);
        due("sheet(" + s + ", " + form + ", " + n + ")", x.sheet(s, form, n), y.sheet(s, form, n));
        for (int i = 0; i < n; i++) {
            int v = i % 3 == 0 ? number(0, months - 1) : i % 3 == 1 ? number(0, counties - 1) : number(1, 4);
            due("put(" + s + ", " + form + ", " + i + ", " + v + ")", x.put(s, form, i, v), y.put(s, form, i, v));
        }
    }

    private void months() {
        int month = number(0, 23);
        int p = number(0, Math.max(0, y.people().size() - 1));
        int what = number(0, 2);
        int c = number(0, 3);
        int d = number(0, Math.max(0, y.deeds().size() - 1));
        int text = number(0, 1);
        switch (random.nextInt(10)) {
            case 0: due("fault(" + text + ")", x.fault(text), y.fault(text)); break;
            case 1: due("person(" + p + ", " + what + ")", x.person(p, what), y.person(p, what)); break;
            case 2: due("deed(" + d + ", " + what + ")", x.deed(d, what), y.deed(d, what)); break;
            case 3: due("dies(" + p + ")", x.dies(p), y.dies(p)); break;
            case 4: due("cloth(" + month + ", " + c + ", " + text + ")", x.cloth(month, c, text),
                    y.cloth(month, c, text)); break;
            case 5: due("thorn(" + month + ")", x.thorn(month), y.thorn(month)); break;
            case 6: due("tax(" + text + ")", x.tax(text), y.tax(text)); break;
            case 7: due("heaviest(" + month + ")", x.heaviest(month), y.heaviest(month)); break;
            case 8: due("first(" + text + ")", x.first(text), y.first(text)); break;
            default: due("wool(" + month + ", " + p + ", " + what + ")", x.wool(month, p, what),
                    y.wool(month, p, what));
        }
    }

    private void plans() {
        int p = number(0, Math.max(0, y.people().size() - 1));
        int i = number(-1, 1);
        switch (random.nextInt(4)) {
            case 0: {
                int pace = number(1, 4);
                int what = number(0, 2);
                due("plan(" + pace + ", " + what + ")", x.plan(pace, what), y.plan(pace, what));
                break;
            }
            case 1: {
                int most = random.nextInt(3) == 0 ? number(0, 99) : number(0, 20);
                due("light(" + p + ", " + most + ", " + i + ")", x.light(p, most, i), y.light(p, most, i));
                break;
            }
            case 2: due("spare(" + i + ")", x.spare(i), y.spare(i)); break;
            default: {
                int what = number(0, 1);
                due("home(" + p + ", " + what + ")", x.home(p, what), y.home(p, what));
            }
        }
    }

    private void witness() {
        int p = number(0, Math.max(0, y.people().size() - 1));
        int d = number(0, Math.max(0, y.deeds().size() - 1));
        int what = number(0, 1);
        switch (random.nextInt(8)) {
            case 0: {
                int month = number(0, 23);
                int much = random.nextBoolean() ? 0 : number(0, 99);
                // As it was told, mostly, or with a deed left out: anything else hardly ever comes out so.
                if (y.people().size() > 0 && random.nextInt(4) > 0) {
                    int who = random.nextInt(y.people().size());
                    int left = y.deeds().isEmpty() ? -1 : random.nextInt(y.deeds().size());
                    int had = y.run(y.people(), Plain.without(y.deeds(), left), y.rounds, y.frosts)
                            .wool[Math.floorMod(month, 24)][who];
                    due("seen", x.seen(Math.floorMod(month, 24), who, had), y.seen(Math.floorMod(month, 24), who, had));
                } else {
                    int who = number(0, 7);
                    due("seen(" + month + ", " + who + ", " + much + ")",
                            x.seen(month, who, much), y.seen(month, who, much));
                    due("never()", x.never(), y.never());
                    due("forget()", x.forget(), y.forget());
                }
                break;
            }
            case 1: due("never()", x.never(), y.never()); break;
            case 2: due("was(" + d + ", " + what + ")", x.was(d, what), y.was(d, what)); break;
            case 3: due("ask(" + p + ")", x.ask(p), y.ask(p)); break;
            case 4: {
                if (random.nextInt(3) == 0) {
                    due("forget()", x.forget(), y.forget());
                }
                break;
            }
            case 5: {
                // Often the same chance again, as something else may have been told since.
                boolean again = random.nextBoolean();
                int c = again ? 5 : random.nextInt(4) == 0 ? 16 * random.nextInt(2) : number(0, 16);
                int last = again ? 5 : random.nextInt(3) == 0 ? number(0, 9) : number(0, 5);
                due("virtue(" + c + ", " + last + ", " + p + ", " + what + ")",
                        x.virtue(c, last, p, what), y.virtue(c, last, p, what));
                break;
            }
            case 6: {
                int seed = random.nextInt();
                int n = number(1, 10);
                due("years(" + seed + ", " + n + ", " + what + ")", x.years(seed, n, what), y.years(seed, n, what));
                break;
            }
            default: {
                int which = number(0, 8);
                due("count(" + which + ")", x.count(which), y.count(which));
            }
        }
    }

    private void sheets() {
        int s = number(0, 3);
        int form = random.nextInt(3) > 0 ? 0 : number(0, 2);
        int i = number(0, random.nextInt(3) == 0 ? 60 : 8);
        int n = number(-1, random.nextInt(3) == 0 ? 61 : 12);
        int p = number(0, Math.max(0, y.people().size() - 1));
        switch (random.nextInt(9)) {
            case 0:
            case 1: due("sheet(" + s + ", " + form + ", " + n + ")", x.sheet(s, form, n), y.sheet(s, form, n)); break;
            case 2: due("lose(" + s + ")", x.lose(s), y.lose(s)); break;
            case 3:
            case 4: {
                int v = random.nextInt(4) == 0 ? random.nextInt() : random.nextInt(5);
                due("put(" + s + ", " + form + ", " + i + ", " + v + ")", x.put(s, form, i, v), y.put(s, form, i, v));
                break;
            }
            case 5: due("get(" + s + ", " + form + ", " + i + ")", x.get(s, form, i), y.get(s, form, i)); break;
            case 6: {
                int t = number(0, 3);
                int j = number(0, 8);
                due("copy(" + s + ", " + i + ", " + t + ", " + j + ", " + n + ")",
                        x.copy(s, i, t, j, n), y.copy(s, i, t, j, n));
                break;
            }
            case 7: due("write(" + p + ", " + s + ")", x.write(p, s), y.write(p, s)); break;
            default: due("count(8)", x.count(8), y.count(8));
        }
    }
}
