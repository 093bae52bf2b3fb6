import java.math.BigInteger;
import java.util.ArrayList;
import java.util.Arrays;
import java.util.List;

/**
 * The document once more, as plainly as it can be written: nothing is kept, all is run anew for each answer.
 * It shares no line with ShornSins, so that one slip is not made in both.
 */
final class Plain {
    static final int[] WEIGHS = {1, 3, 4, 9};
    static final int[] WORTHS = {3, 1, 2};

    final StringBuilder[] texts = {new StringBuilder(), new StringBuilder()};
    final List<int[]> rounds = new ArrayList<>();
    final List<int[]> journeys = new ArrayList<>();
    final List<int[]> frosts = new ArrayList<>();
    final List<int[]> seen = new ArrayList<>();
    final Object[] sheets = new Object[4];
    int grace = 3;
    int cold = 10;
    int finding = 0;

    /** One run of all months. */
    static final class Run {
        final int[][] wool = new int[24][8];
        final int[][] county = new int[24][8];
        final int[][] shorn = new int[24][8];
        final int[][] cloth = new int[24][4];
        final int[][] worth = new int[24][4];
        final int[] thorn = new int[24];
        final int[] dies = new int[8];
        final int[] taken = new int[8];
        int firstMonth = -1;
        int firstWho = -1;

        int worthAll() {
            return Arrays.stream(worth[23]).sum();
        }

        int tax(int month) {
            int all = 0;
            for (int p = 0; p < 8; p++) {
                if (dies[p] < 0 || dies[p] > month) {
                    all += wool[month][p];
                }
            }
            return all;
        }
    }

    Run run(List<int[]> people, List<int[]> deeds, List<int[]> roundsNow, List<int[]> frostsNow) {
        Run r = new Run();
        Arrays.fill(r.dies, -1);
        int n = people.size();
        int[] wool = new int[8];
        int[] county = new int[8];
        int[] shorn = new int[8];
        int[] cloth = new int[4];
        int[] worth = new int[4];
        int thorn = 0;
        for (int p = 0; p < n; p++) {
            county[p] = people.get(p)[1];
            wool[p] = people.get(p)[2];
        }
        for (int m = 0; m < 24; m++) {
            boolean[] did = new boolean[8];
            for (int[] d : deeds) {
                if (d[0] != m || d[1] >= n || r.dies[d[1]] >= 0) {
                    continue;
                }
                int w = WEIGHS[d[2]];
                int kind = people.get(d[1])[0];
                wool[d[1]] += kind == 2 ? w : kind == 0 ? w / 2 + 1 : w + w;
                did[d[1]] = true;
            }
            for (int p = 0; p < n; p++) {
                if (r.dies[p] < 0 && !did[p] && wool[p] <= grace) {
                    wool[p] = Math.max(0, wool[p] - 1);
                }
            }
            for (int[] j : journeys) {
                if (j[0] == m && j[1] < n && r.dies[j[1]] < 0 && county[j[1]] != j[2]) {
                    int before = wool[j[1]];
                    wool[j[1]] = Math.max(0, before - 2);
                    thorn += before - wool[j[1]];
                    county[j[1]] = j[2];
                }
            }
            boolean frost = false;
            for (int[] f : frostsNow) {
                frost |= f[0] == m;
            }
            for (int[] o : roundsNow) {
                if (o[0] != m) {
                    continue;
                }
                List<Integer> there = new ArrayList<>();
                for (int p = 0; p < n; p++) {
                    if (r.dies[p] < 0 && county[p] == o[1] && wool[p] > 0) {
                        there.add(p);
                    }
                }
                there.sort((a, b) -> wool[a] != wool[b] ? wool[b] - wool[a] : a - b);
                for (int p : there.subList(0, Math.min(o[2], there.size()))) {
                    if (r.firstMonth < 0) {
                        r.firstMonth = m;
                        r.firstWho = p;
                    }
                    if (frost && wool[p] >= cold) {
                        r.dies[p] = m;
                    }
                    cloth[o[1]] += wool[p];
                    worth[o[1]] += wool[p] * WORTHS[people.get(p)[0]];
                    r.taken[p] += wool[p];
                    shorn[p]++;
                    wool[p] = 0;
                }
            }
            r.wool[m] = wool.clone();
            r.county[m] = county.clone();
            r.shorn[m] = shorn.clone();
            r.cloth[m] = cloth.clone();
            r.worth[m] = worth.clone();
            r.thorn[m] = thorn;
        }
        return r;
    }

    Run run() {
        return run(people(), deeds(), rounds, frosts);
    }

    List<int[]> people() {
        List<int[]> all = new ArrayList<>();
        if (fault(0) == -1 && texts[0].length() > 0) {
            for (String s : texts[0].toString().split(";")) {
                all.add(new int[] {"fch".indexOf(s.charAt(0)), s.charAt(1) - '0', s.charAt(2) - '0'});
            }
        }
        return all;
    }

    List<int[]> deeds() {
        List<int[]> all = new ArrayList<>();
        if (fault(1) == -1 && texts[1].length() > 0) {
            for (String s : texts[1].toString().split(";")) {
                all.add(new int[] {s.charAt(0) - 'a', s.charAt(1) - '0', "letm".indexOf(s.charAt(2))});
            }
        }
        return all;
    }

    static List<int[]> without(List<int[]> all, int... which) {
        List<int[]> left = new ArrayList<>();
        for (int i = 0; i < all.size(); i++) {
            final int at = i;
            if (Arrays.stream(which).noneMatch(w -> w == at)) {
                left.add(all.get(i).clone());
            }
        }
        return left;
    }

    private static boolean in(int v, int least, int most) {
        return least <= v && v <= most;
    }

    private int found(int number) {
        finding = number;
        return -10 - number;
    }

    int type(int text, int b) {
        if (!in(text, 0, 1) || !in(b, 0, 255)) {
            return -2;
        }
        if (texts[text].length() == (text == 0 ? 31 : 39)) {
            return -4;
        }
        return texts[text].append((char) b).length();
    }

    int wipe(int text) {
        if (!in(text, 0, 1)) {
            return -2;
        }
        int had = texts[text].length();
        texts[text].setLength(0);
        return had;
    }

    int undo(int text) {
        if (!in(text, 0, 1)) {
            return -2;
        }
        if (texts[text].length() == 0) {
            return -3;
        }
        texts[text].setLength(texts[text].length() - 1);
        return texts[text].length();
    }

    /** The longest beginning that some well text has: a well text's pattern, cut off anywhere. */
    int fault(int text) {
        if (!in(text, 0, 1)) {
            return -2;
        }
        String t = texts[text].toString();
        String one = text == 0 ? "[fch][0-3][0-9]" : "[a-x][0-7][letm]";
        if (t.isEmpty() || t.matches(one + "(;" + one + ")*")) {
            return -1;
        }
        String begun = text == 0 ? "([fch]([0-3])?)?" : "([a-x]([0-7])?)?";
        for (int n = t.length(); n > 0; n--) {
            String b = t.substring(0, n);
            if (b.matches("(" + one + ";)*(" + begun + "|" + one + ")")) {
                return n;
            }
        }
        return 0;
    }

    int person(int p, int what) {
        return in(p, 0, people().size() - 1) && in(what, 0, 2) ? people().get(p)[what] : -2;
    }

    int deed(int d, int what) {
        return in(d, 0, deeds().size() - 1) && in(what, 0, 2) ? deeds().get(d)[what] : -2;
    }

    int set(int what, int v) {
        int was = -2;
        if (what == 0 && in(v, 0, 9)) {
            was = grace;
            grace = v;
        } else if (what == 1 && in(v, 0, 30)) {
            was = cold;
            cold = v;
        }
        return was;
    }

    private static int more(List<int[]> list, int most, int... row) {
        if (list.size() >= most) {
            return -4;
        }
        list.add(row);
        return list.size();
    }

    int round(int month, int county, int pace) {
        return in(month, 0, 23) && in(county, 0, 3) && in(pace, 1, 4) ? more(rounds, 8, month, county, pace) : -2;
    }

    int journey(int month, int p, int county) {
        return in(month, 0, 23) && in(p, 0, 7) && in(county, 0, 3) ? more(journeys, 8, month, p, county) : -2;
    }

    int frost(int month) {
        return in(month, 0, 23) ? more(frosts, 6, month) : -2;
    }

    int back(int what) {
        if (!in(what, 0, 2)) {
            return -2;
        }
        List<int[]> list = List.of(rounds, journeys, frosts).get(what);
        if (list.isEmpty()) {
            return -3;
        }
        list.remove(list.size() - 1);
        return list.size();
    }

    int read(int s) {
        if (!in(s, 0, 3)) {
            return -2;
        }
        if (sheets[s] == null) {
            return found(1);
        }
        int many = 0;
        while (many * 3 + 3 <= size(s)
                && round(item(s, many * 3), item(s, many * 3 + 1), item(s, many * 3 + 2)) > 0) {
            many++;
        }
        return many;
    }

    int wool(int month, int p, int what) {
        if (!in(month, 0, 23) || !in(p, 0, people().size() - 1) || !in(what, 0, 2)) {
            return -2;
        }
        Run r = run();
        return what == 0 ? r.wool[month][p] : what == 1 ? r.county[month][p] : r.shorn[month][p];
    }

    int dies(int p) {
        return in(p, 0, people().size() - 1) ? run().dies[p] : -2;
    }

    int cloth(int month, int county, int what) {
        if (!in(month, 0, 23) || !in(county, 0, 3) || !in(what, 0, 1)) {
            return -2;
        }
        return what == 0 ? run().cloth[month][county] : run().worth[month][county];
    }

    int thorn(int month) {
        return in(month, 0, 23) ? run().thorn[month] : -2;
    }

    int tax(int which) {
        return in(which, 0, 1) ? run().tax(which * 12 + 11) : -2;
    }

    int heaviest(int month) {
        if (!in(month, 0, 23)) {
            return -2;
        }
        Run r = run();
        int who = -1;
        for (int p = people().size() - 1; p >= 0; p--) {
            if ((r.dies[p] < 0 || r.dies[p] > month) && (who < 0 || r.wool[month][p] >= r.wool[month][who])) {
                who = p;
            }
        }
        return who;
    }

    int first(int what) {
        return in(what, 0, 1) ? what == 0 ? run().firstMonth : run().firstWho : -2;
    }

    int plan(int pace, int what) {
        if (!in(pace, 1, 4) || !in(what, 0, 2)) {
            return -2;
        }
        int[] best = {-1, -1, -1};
        for (int month = 0; month < 24; month++) {
            for (int county = 0; county < 4; county++) {
                List<int[]> more = without(rounds);
                more.add(new int[] {month, county, pace});
                int worth = run(people(), deeds(), more, frosts).worthAll();
                if (worth > best[2]) {
                    best = new int[] {month, county, worth};
                }
            }
        }
        return best[what];
    }

    int light(int p, int most, int i) {
        if (!in(p, 0, people().size() - 1) || !in(most, 0, 99) || !in(i, -1, 1)) {
            return -2;
        }
        List<int[]> d = deeds();
        for (int[] out : choices(d.size())) {
            Run r = run(people(), without(d, out), rounds, frosts);
            if (Arrays.stream(r.wool).allMatch(w -> w[p] <= most)) {
                return i < 0 ? out.length : i < out.length ? out[i] : -1;
            }
        }
        return -1;
    }

    int spare(int i) {
        if (!in(i, -1, 1)) {
            return -2;
        }
        for (int[] out : choices(rounds.size())) {
            Run r = run(people(), deeds(), without(rounds, out), frosts);
            if (Arrays.stream(r.dies).allMatch(m -> m < 0)) {
                return i < 0 ? out.length : i < out.length ? out[i] : -1;
            }
        }
        return -1;
    }

    private static List<int[]> choices(int n) {
        List<int[]> all = new ArrayList<>();
        all.add(new int[0]);
        for (int a = 0; a < n; a++) {
            all.add(new int[] {a});
        }
        for (int a = 0; a < n; a++) {
            for (int b = a + 1; b < n; b++) {
                all.add(new int[] {a, b});
            }
        }
        return all;
    }

    int home(int p, int what) {
        if (!in(p, 0, people().size() - 1) || !in(what, 0, 1)) {
            return -2;
        }
        int[] best = {-1, -1};
        for (int county = 0; county < 4; county++) {
            List<int[]> moved = people();
            moved.get(p)[1] = county;
            int much = run(moved, deeds(), rounds, frosts).taken[p];
            if (much > best[1]) {
                best = new int[] {county, much};
            }
        }
        return best[what];
    }

    int seen(int month, int p, int much) {
        return in(month, 0, 23) && in(p, 0, 7) && in(much, 0, 99) ? more(seen, 8, month, p, much) : -2;
    }

    int forget() {
        int had = seen.size();
        seen.clear();
        return had;
    }

    private boolean so(Run r) {
        return seen.stream().allMatch(s -> s[1] < people().size() && r.wool[s[0]][s[1]] == s[2]);
    }

    int never() {
        int bits = 0;
        for (int d = 0; d < deeds().size(); d++) {
            if (so(run(people(), without(deeds(), d), rounds, frosts))) {
                bits += 1 << d;
            }
        }
        return bits;
    }

    int was(int d, int what) {
        if (!in(d, 0, deeds().size() - 1) || !in(what, 0, 1)) {
            return -2;
        }
        int bits = 0;
        for (int v = 0; v < (what == 0 ? 4 : people().size()); v++) {
            List<int[]> changed = deeds();
            changed.get(d)[what == 0 ? 2 : 1] = v;
            if (so(run(people(), changed, rounds, frosts))) {
                bits += 1 << v;
            }
        }
        return bits;
    }

    int ask(int p) {
        if (!in(p, 0, people().size() - 1)) {
            return -2;
        }
        int never = never();
        int best = -1;
        int least = 99;
        for (int m = 0; m < 24; m++) {
            int[] alike = new int[400];
            for (int d = 0; d < deeds().size(); d++) {
                if ((never & 1 << d) != 0) {
                    alike[run(people(), without(deeds(), d), rounds, frosts).wool[m][p]]++;
                }
            }
            int most = Arrays.stream(alike).max().getAsInt();
            if (most < least) {
                least = most;
                best = m;
            }
        }
        return best;
    }

    long virtue(int c, int last, int p, int what) {
        if (!in(c, 0, 16) || !in(last, 0, 9) || !in(p, 0, people().size() - 1) || !in(what, 0, 1)) {
            return Long.MIN_VALUE + 2;
        }
        BigInteger above = BigInteger.ZERO;
        for (int bits = 0; bits < 1 << last + 1; bits++) {
            List<int[]> by = new ArrayList<>();
            BigInteger weight = BigInteger.ONE;
            for (int m = 0; m <= last; m++) {
                boolean frost = (bits >> m & 1) == 1;
                if (frost) {
                    by.add(new int[] {m});
                }
                weight = weight.multiply(BigInteger.valueOf(frost ? c : 16 - c));
            }
            if (weight.signum() > 0 && run(people(), deeds(), rounds, by).dies[p] < 0) {
                above = above.add(weight);
            }
        }
        BigInteger below = BigInteger.valueOf(16).pow(last + 1);
        BigInteger common = above.gcd(below);
        return (what == 0 ? above : below).divide(common).longValueExact();
    }

    int years(int seed, int n, int what) {
        if (!in(n, 1, 10) || !in(what, 0, 1)) {
            return -2;
        }
        List<int[]> by = new ArrayList<>();
        int people = people().size();
        long s = seed;
        for (int i = 0; i < n && people > 0; i++) {
            int[] d = new int[3];
            int[] of = {24, people, 4};
            for (int k = 0; k < 3; k++) {
                s = (1103515245L * s + 12345L) & 0xFFFFFFFFL;
                d[k] = (int) ((s / 65536) % of[k]);
            }
            by.add(d);
        }
        Run r = run(people(), by, rounds, frosts);
        return what == 0 ? r.worthAll() : r.tax(11) + r.tax(23);
    }

    private int form(int s) {
        return sheets[s] instanceof byte[] ? 0 : sheets[s] instanceof short[] ? 1 : 2;
    }

    private int size(int s) {
        return java.lang.reflect.Array.getLength(sheets[s]);
    }

    private int item(int s, int i) {
        return ((Number) java.lang.reflect.Array.get(sheets[s], i)).intValue();
    }

    private void store(int s, int i, int v) {
        if (sheets[s] instanceof byte[]) {
            ((byte[]) sheets[s])[i] = (byte) v;
        } else if (sheets[s] instanceof short[]) {
            ((short[]) sheets[s])[i] = (short) v;
        } else {
            ((int[]) sheets[s])[i] = v;
        }
    }

    int sheet(int s, int form, int n) {
        if (!in(s, 0, 3) || !in(form, 0, 2) || n > 60) {
            return -2;
        }
        if (n < 0) {
            return found(5);
        }
        sheets[s] = form == 0 ? new byte[n] : form == 1 ? new short[n] : new int[n];
        return n;
    }

    int lose(int s) {
        if (!in(s, 0, 3)) {
            return -2;
        }
        if (sheets[s] == null) {
            return found(1);
        }
        int had = size(s);
        sheets[s] = null;
        return had;
    }

    private int check(int s, int form, int i) {
        return !in(s, 0, 3) || !in(form, 0, 2) ? -2 : sheets[s] == null ? found(1)
                : form(s) != form ? found(3) : !in(i, 0, size(s) - 1) ? found(2) : 0;
    }

    int put(int s, int form, int i, int v) {
        int no = check(s, form, i);
        if (no < 0) {
            return no;
        }
        store(s, i, v);
        return 1;
    }

    int get(int s, int form, int i) {
        return check(s, form, i) < 0 ? Integer.MIN_VALUE : item(s, i);
    }

    @SuppressWarnings("SuspiciousSystemArraycopy")
    int copy(int s, int i, int t, int j, int n) {
        if (!in(s, 0, 3) || !in(t, 0, 3)) {
            return -2;
        }
        try {
            System.arraycopy(sheets[s], i, sheets[t], j, n);
            return 1;
        } catch (NullPointerException e) {
            return found(1);
        } catch (ArrayStoreException e) {
            return found(4);
        } catch (IndexOutOfBoundsException e) {
            return found(2);
        }
    }

    int write(int p, int s) {
        if (!in(p, 0, people().size() - 1) || !in(s, 0, 3)) {
            return -2;
        }
        if (sheets[s] == null) {
            return found(1);
        }
        int many = Math.min(24, size(s));
        for (int m = 0; m < many; m++) {
            store(s, m, run().wool[m][p]);
        }
        return many;
    }

    int count(int what) {
        Run r = run();
        int living = 0;
        for (int p = 0; p < people().size(); p++) {
            living += r.dies[p] < 0 ? 1 : 0;
        }
        int[] all = {people().size(), deeds().size(), texts[0].length(), texts[1].length(), rounds.size(),
            journeys.size() + frosts.size(), living, seen.size(), finding};
        return in(what, 0, 8) ? all[what] : -2;
    }

    long digest() {
        List<Long> all = new ArrayList<>();
        for (int i = 0; i < 8; i++) {
            all.add((long) count(i));
        }
        all.add((long) fault(0));
        all.add((long) fault(1));
        for (int p = 0; p < people().size(); p++) {
            for (int w = 0; w < 3; w++) {
                all.add((long) person(p, w));
            }
            for (int m : new int[] {0, 5, 11, 23}) {
                for (int w = 0; w < 3; w++) {
                    all.add((long) wool(m, p, w));
                }
            }
            all.add((long) dies(p));
            all.add((long) light(p, 9, -1));
            all.add((long) light(p, 9, 0));
            all.add((long) home(p, 0));
            all.add((long) home(p, 1));
            all.add((long) ask(p));
            all.add(virtue(5, 5, p, 0));
            all.add(virtue(5, 5, p, 1));
        }
        for (int d = 0; d < deeds().size(); d++) {
            for (int w = 0; w < 3; w++) {
                all.add((long) deed(d, w));
            }
            all.add((long) was(d, 0));
            all.add((long) was(d, 1));
        }
        for (int c = 0; c < 4; c++) {
            for (int m : new int[] {11, 23}) {
                all.add((long) cloth(m, c, 0));
                all.add((long) cloth(m, c, 1));
            }
        }
        for (int m : new int[] {0, 11, 23}) {
            all.add((long) thorn(m));
            all.add((long) heaviest(m));
        }
        for (int v : new int[] {tax(0), tax(1), first(0), first(1), plan(2, 0), plan(2, 1), plan(2, 2),
            spare(-1), spare(0), never(), years(7, 9, 0), years(7, 9, 1)}) {
            all.add((long) v);
        }
        long h = 17;
        for (long v : all) {
            h = h * 31 + v;
        }
        return h;
    }
}
