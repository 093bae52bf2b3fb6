/** Countries to try bounds in: one of which nothing is told, one with some of all, and one that is full. */
enum Country {
    EMPTY(0, 0), SOME(3, 4), FULL(8, 10);

    interface Call {
        long on(ShornSins x);
    }

    /** How many there are. */
    final int people;
    final int deeds;
    private State untouched = null;

    Country(int people, int deeds) {
        this.people = people;
        this.deeds = deeds;
    }

    ShornSins make() {
        ShornSins x = new ShornSins();
        if (this == SOME) {
            tellSome(x);
        } else if (this == FULL) {
            tellAll(x);
        }
        return x;
    }

    private static void tellSome(ShornSins x) {
        Due.type(x, 0, "f05;c12;h09");
        Due.type(x, 1, "a0l;b1m;c2e;d0t");
        x.set(0, 4);
        x.set(1, 12);
        x.round(2, 0, 1);
        x.round(4, 1, 2);
        x.journey(3, 2, 1);
        x.frost(4);
        x.seen(0, 2, 9);
        fill(x, 0, 0, 2, 0, 1);
        fill(x, 1, 1, 300, -2);
        fill(x, 2, 2);
    }

    private static void tellAll(ShornSins x) {
        Due.type(x, 0, "f05;c12;h09;f10;c27;h31;f04;c09");
        Due.type(x, 1, "a0l;b1m;c2e;d3t;e4m;f5l;g6e;h7t;x0m;x1m");
        for (int i = 0; i < 8; i++) {
            x.round(2 * i + 1, i % 4, 1 + i % 3);
            x.journey(i, i, (i + 1) % 4);
            x.seen(i % 2, i % 3 == 0 ? 2 : i % 3 == 1 ? 5 : 7, i % 3 == 1 ? 0 : 9);
        }
        for (int i = 0; i < 6; i++) {
            x.frost(2 * i + 3);
        }
        fill(x, 0, 0, 1, 2, 3, 4, 5, -6);
        fill(x, 1, 1, 300, -2);
        x.sheet(2, 2, 60);
        x.put(2, 2, 59, Integer.MAX_VALUE);
        fill(x, 3, 2, 5, 1, 2);
    }

    static void fill(ShornSins x, int s, int form, int... items) {
        Due.is("sheet(" + s + ", " + form + ", " + items.length + ")", x.sheet(s, form, items.length), items.length);
        for (int i = 0; i < items.length; i++) {
            Due.is("put(" + s + ", " + form + ", " + i + ", " + items[i] + ")", x.put(s, form, i, items[i]), 1);
        }
    }

    private State untouched() {
        if (untouched == null) {
            untouched = State.of(make());
        }
        return untouched;
    }

    /** The call answers so, and nothing is other than before. */
    void keeps(String call, Call asked, long answer) {
        ShornSins x = make();
        Due.is(this + ": " + call, asked.on(x), answer);
        Due.isTrue(this + ": " + call + " changes nothing", State.of(x).equals(untouched()));
    }

    /** The call answers so, with a FINDING, and nothing but count() 8 is other than before. */
    void finds(String call, Call asked, long answer, int number) {
        ShornSins x = make();
        Due.is(this + ": " + call, asked.on(x), answer);
        Due.is(this + ": count(8) behind " + call, x.count(8), number);
        Due.isTrue(this + ": " + call + " changes nothing else", State.of(x).rest().equals(untouched().rest()));
    }

    void finds(String call, Call asked, int number) {
        finds(call, asked, -10 - number, number);
    }
}
