import java.util.ArrayList;
import java.util.Arrays;
import java.util.List;
import java.util.Set;
import java.util.TreeSet;

/**
 * A call with the numbers that it takes, argument by argument. In every Country it is tried on each bound, a step
 * inside it and a step beyond it, and with the least and the greatest int: beyond, it is refused and changes nothing.
 */
final class Bounds {
    interface Call {
        long on(ShornSins x, int[] a);
    }

    /** In place of a range: the PEOPLE, the DEEDS that there are. */
    private static final int[] PERSON = {};
    private static final int[] DEED = {};

    private final String name;
    private final Call call;
    private final List<int[]> ranges = new ArrayList<>();
    private long refusal = ShornSins.BAD;

    private Bounds(String name, Call call) {
        this.name = name;
        this.call = call;
    }

    static Bounds of(String name, Call call) {
        return new Bounds(name, call);
    }

    Bounds from(int least, int most) {
        ranges.add(new int[] {least, most});
        return this;
    }

    Bounds month() {
        return from(0, 23);
    }

    Bounds county() {
        return from(0, 3);
    }

    Bounds any() {
        return from(Integer.MIN_VALUE, Integer.MAX_VALUE);
    }

    Bounds person() {
        ranges.add(PERSON);
        return this;
    }

    Bounds deed() {
        ranges.add(DEED);
        return this;
    }

    Bounds refusing(long answer) {
        refusal = answer;
        return this;
    }

    /** For a call that changes something. */
    void hold() {
        for (Country country : Country.values()) {
            holdIn(country, false);
        }
    }

    /** For a call that only asks: what it takes changes nothing either. */
    void holdAsking() {
        for (Country country : Country.values()) {
            holdIn(country, true);
        }
    }

    private void holdIn(Country country, boolean asking) {
        int[][] in = new int[ranges.size()][];
        boolean some = true;
        int[] plain = new int[in.length];
        for (int k = 0; k < in.length; k++) {
            int[] range = ranges.get(k);
            in[k] = range == PERSON ? new int[] {0, country.people - 1}
                    : range == DEED ? new int[] {0, country.deeds - 1} : range;
            some &= in[k][0] <= in[k][1];
            plain[k] = Math.max(0, in[k][0]);
        }
        for (int k = 0; k < in.length; k++) {
            for (int v : edges(in[k])) {
                int[] a = plain.clone();
                a[k] = v;
                if (v < in[k][0] || v > in[k][1]) {
                    country.keeps(said(a), x -> call.on(x, a), refusal);
                } else if (some) {
                    taken(country, a, asking);
                }
            }
        }
    }

    private void taken(Country country, int[] a, boolean asking) {
        long answer = call.on(country.make(), a);
        Due.isTrue(country + ": " + said(a) + " is not refused", answer != refusal);
        if (asking) {
            country.keeps(said(a), x -> call.on(x, a), answer);
        }
    }

    private static Set<Integer> edges(int[] range) {
        Set<Integer> all = new TreeSet<>();
        for (long at : new long[] {range[0], range[1], Integer.MIN_VALUE, Integer.MAX_VALUE}) {
            for (long v = at - 1; v <= at + 1; v++) {
                if (v == (int) v) {
                    all.add((int) v);
                }
            }
        }
        return all;
    }

    private String said(int[] a) {
        String list = Arrays.toString(a);
        return name + "(" + list.substring(1, list.length() - 1) + ")";
    }
}
