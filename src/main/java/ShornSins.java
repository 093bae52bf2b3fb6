import java.util.Arrays;

/** A wool country in which sins grow on people and are shorn; ../shared/DOC.md says what each call answers. */
public final class ShornSins {
    public static final int NONE = -1, BAD = -2, NOT = -3, FULL = -4;

    private static final int MONTHS = 24, LAST = 23, HALF = 11, COUNTIES = 4, KINDS = 4;
    private static final int MOST_PEOPLE = 8, MOST_DEEDS = 10, MOST_ROUNDS = 8, MOST_JOURNEYS = 8;
    private static final int MOST_FROSTS = 6, MOST_SEEN = 8, MOST_PACE = 4, MOST_WOOL = 99;
    private static final int PEOPLE_BYTES = 31, DEEDS_BYTES = 39;

    /** Where each part stands in the row that a Course keeps behind every MONTH. */
    private static final int WOOL = 0, COUNTY = 8, SHORN = 16, CLOTH = 24, WORTH = 28, THORN = 32, TAKEN = 33, ROW = 41;

    /** No thing, each one, and each pair of MOST_DEEDS things. */
    private static final int MOST_CHOICES = 56;

    private static final int SHEETS = 4, ITEMS = 60, BYTES = 0, SHORTS = 1, INTS = 2;
    private static final int NULL = 1, INDEX = 2, CAST = 3, STORE = 4, SIZE = 5;

    private final Text peopleText = new Text(PEOPLE_BYTES, "fch", "0123", "0123456789");
    private final Text deedsText = new Text(DEEDS_BYTES, "abcdefghijklmnopqrstuvwx", "01234567", "letm");
    private final Told told = new Told();
    private final Course course = new Course(told);
    private final Other other = new Other(told);
    private final Plans plans = new Plans(other);
    private final Witness witness = new Witness(other);
    private final Chances chances = new Chances(other);
    private final Sheets sheets = new Sheets();
    private boolean settled = false;

    public ShornSins() {
    }

    // ---- people, deeds, rounds, journeys, frosts

    public int type(int text, int b) {
        if (!within(text, 0, 1) || !within(b, 0, 255)) {
            return BAD;
        }
        int length = textOf(text).append(b);
        if (length != FULL) {
            readTexts();
        }
        return length;
    }

    public int wipe(int text) {
        if (!within(text, 0, 1)) {
            return BAD;
        }
        int had = textOf(text).length;
        textOf(text).length = 0;
        readTexts();
        return had;
    }

    public int undo(int text) {
        if (!within(text, 0, 1)) {
            return BAD;
        }
        if (textOf(text).length <= 0) {
            return NOT;
        }
        textOf(text).length--;
        readTexts();
        return textOf(text).length;
    }

    public int fault(int text) {
        return within(text, 0, 1) ? textOf(text).faultPlace() : BAD;
    }

    public int person(int person, int what) {
        if (!isPerson(person) || !within(what, 0, 2)) {
            return BAD;
        }
        return told.people.cell(person, what);
    }

    public int deed(int deed, int what) {
        if (!isDeed(deed) || !within(what, 0, 2)) {
            return BAD;
        }
        return told.deeds.cell(deed, what);
    }

    public int set(int what, int v) {
        if (!within(what, 0, 1) || !within(v, 0, what == 0 ? 9 : 30)) {
            return BAD;
        }
        int was = what == 0 ? told.grace : told.cold;
        if (what == 0) {
            told.grace = v;
        } else {
            told.cold = v;
        }
        unsettle();
        return was;
    }

    public int round(int month, int county, int pace) {
        if (!isMonth(month) || !isCounty(county) || !within(pace, 1, MOST_PACE)) {
            return BAD;
        }
        if (told.rounds.count >= MOST_ROUNDS) {
            return FULL;
        }
        unsettle();
        return told.rounds.append(month, county, pace);
    }

    public int journey(int month, int person, int county) {
        if (!isMonth(month) || !within(person, 0, MOST_PEOPLE - 1) || !isCounty(county)) {
            return BAD;
        }
        if (told.journeys.count >= MOST_JOURNEYS) {
            return FULL;
        }
        unsettle();
        return told.journeys.append(month, person, county);
    }

    public int frost(int month) {
        if (!isMonth(month)) {
            return BAD;
        }
        if (told.frosts.count >= MOST_FROSTS) {
            return FULL;
        }
        unsettle();
        return told.frosts.append(month, 0, 0);
    }

    public int back(int what) {
        if (!within(what, 0, 2)) {
            return BAD;
        }
        Rows rows = what == 0 ? told.rounds : what == 1 ? told.journeys : told.frosts;
        if (rows.count <= 0) {
            return NOT;
        }
        unsettle();
        rows.count--;
        return rows.count;
    }

    public int read(int s) {
        if (!isSheet(s)) {
            return BAD;
        }
        if (sheets.isLost(s)) {
            return sheets.finding(NULL);
        }
        int many = 0;
        for (int i = 0; i + 2 < sheets.length(s); i += 3) {
            if (round(sheets.item(s, i), sheets.item(s, i + 1), sheets.item(s, i + 2)) < 0) {
                return many;
            }
            many++;
        }
        return many;
    }

    // ---- months

    public int wool(int month, int person, int what) {
        if (!isMonth(month) || !isPerson(person) || !within(what, 0, 2)) {
            return BAD;
        }
        settle();
        return course.behind(month, (what == 0 ? WOOL : what == 1 ? COUNTY : SHORN) + person);
    }

    public int dies(int person) {
        if (!isPerson(person)) {
            return BAD;
        }
        settle();
        return course.deathOf(person);
    }

    public int cloth(int month, int county, int what) {
        if (!isMonth(month) || !isCounty(county) || !within(what, 0, 1)) {
            return BAD;
        }
        settle();
        return course.behind(month, (what == 0 ? CLOTH : WORTH) + county);
    }

    public int thorn(int month) {
        if (!isMonth(month)) {
            return BAD;
        }
        settle();
        return course.behind(month, THORN);
    }

    public int tax(int which) {
        if (!within(which, 0, 1)) {
            return BAD;
        }
        settle();
        return course.taxBehind(which == 0 ? HALF : LAST);
    }

    public int heaviest(int month) {
        if (!isMonth(month)) {
            return BAD;
        }
        settle();
        return course.heaviestBehind(month);
    }

    public int first(int what) {
        if (!within(what, 0, 1)) {
            return BAD;
        }
        settle();
        return what == 0 ? course.firstMonth : course.firstWho;
    }

    // ---- plans

    public int plan(int pace, int what) {
        if (!within(pace, 1, MOST_PACE) || !within(what, 0, 2)) {
            return BAD;
        }
        plans.findRound(pace);
        return what == 0 ? plans.bestMonth : what == 1 ? plans.bestCounty : plans.bestWorth;
    }

    public int light(int person, int most, int i) {
        if (!isPerson(person) || !within(most, 0, MOST_WOOL) || !within(i, NONE, 1)) {
            return BAD;
        }
        return plans.fewestDeeds(person, most, i);
    }

    public int spare(int i) {
        return within(i, NONE, 1) ? plans.fewestRounds(i) : BAD;
    }

    public int home(int person, int what) {
        if (!isPerson(person) || !within(what, 0, 1)) {
            return BAD;
        }
        plans.findHome(person);
        return what == 0 ? plans.homeCounty : plans.homeMuch;
    }

    // ---- seen, chance, years

    public int seen(int month, int person, int much) {
        if (!isMonth(month) || !within(person, 0, MOST_PEOPLE - 1) || !within(much, 0, MOST_WOOL)) {
            return BAD;
        }
        if (witness.seen.count >= MOST_SEEN) {
            return FULL;
        }
        witness.unsettle();
        return witness.seen.append(month, person, much);
    }

    public int forget() {
        int had = witness.seen.count;
        witness.seen.count = 0;
        witness.unsettle();
        return had;
    }

    public int never() {
        witness.survey();
        return witness.never;
    }

    public int was(int deed, int what) {
        if (!isDeed(deed) || !within(what, 0, 1)) {
            return BAD;
        }
        return what == 0 ? witness.fitting(deed, 2, KINDS) : witness.fitting(deed, 1, told.people.count);
    }

    public int ask(int person) {
        if (!isPerson(person)) {
            return BAD;
        }
        witness.survey();
        return witness.monthToAsk(person);
    }

    public long virtue(int c, int last, int person, int what) {
        if (!within(c, 0, 16) || !within(last, 0, 9) || !isPerson(person) || !within(what, 0, 1)) {
            return Long.MIN_VALUE - BAD;
        }
        chances.findLiving(c, last);
        return what == 0 ? chances.above(person) : chances.below(person);
    }

    public int years(int seed, int n, int what) {
        if (!within(n, 1, MOST_DEEDS) || !within(what, 0, 1)) {
            return BAD;
        }
        chances.runYears(seed, n);
        Course run = other.course;
        return what == 0 ? run.worthInAll() : run.taxBehind(HALF) + run.taxBehind(LAST);
    }

    // ---- sheets

    public int sheet(int s, int form, int n) {
        if (!isSheet(s) || !within(form, BYTES, INTS) || n > ITEMS) {
            return BAD;
        }
        return n < 0 ? sheets.finding(SIZE) : sheets.renew(s, form, n);
    }

    public int lose(int s) {
        if (!isSheet(s)) {
            return BAD;
        }
        return sheets.isLost(s) ? sheets.finding(NULL) : sheets.drop(s);
    }

    public int put(int s, int form, int i, int v) {
        if (!isSheet(s) || !within(form, BYTES, INTS)) {
            return BAD;
        }
        int fault = sheets.faultAt(s, form, i);
        if (fault != 0) {
            return sheets.finding(fault);
        }
        sheets.store(s, i, v);
        return 1;
    }

    public int get(int s, int form, int i) {
        if (!isSheet(s) || !within(form, BYTES, INTS)) {
            return Integer.MIN_VALUE;
        }
        int fault = sheets.faultAt(s, form, i);
        if (fault != 0) {
            sheets.finding(fault);
            return Integer.MIN_VALUE;
        }
        return sheets.item(s, i);
    }

    public int copy(int s, int i, int t, int j, int n) {
        if (!isSheet(s) || !isSheet(t)) {
            return BAD;
        }
        if (sheets.isLost(s) || sheets.isLost(t)) {
            return sheets.finding(NULL);
        }
        if (!sheets.alike(s, t)) {
            return sheets.finding(STORE);
        }
        if (!sheets.holds(s, i, n) || !sheets.holds(t, j, n)) {
            return sheets.finding(INDEX);
        }
        sheets.move(s, i, t, j, n);
        return 1;
    }

    public int write(int person, int s) {
        if (!isPerson(person) || !isSheet(s)) {
            return BAD;
        }
        if (sheets.isLost(s)) {
            return sheets.finding(NULL);
        }
        settle();
        int many = Math.min(sheets.length(s), MONTHS);
        for (int month = 0; month < many; month++) {
            sheets.store(s, month, course.behind(month, WOOL + person));
        }
        return many;
    }

    public int count(int what) {
        switch (what) {
            case 0: return told.people.count;
            case 1: return told.deeds.count;
            case 2: return peopleText.length;
            case 3: return deedsText.length;
            case 4: return told.rounds.count;
            case 5: return told.journeys.count + told.frosts.count;
            case 6:
                settle();
                return course.living();
            case 7: return witness.seen.count;
            case 8: return sheets.latest;
            default: return BAD;
        }
    }

    public long digest() {
        long h = 17;
        for (int what = 0; what <= 7; what++) {
            h = 31 * h + count(what);
        }
        h = 31 * (31 * h + fault(0)) + fault(1);
        for (int p = 0; p < told.people.count; p++) {
            h = digestPerson(h, p);
        }
        for (int d = 0; d < told.deeds.count; d++) {
            for (int what = 0; what <= 2; what++) {
                h = 31 * h + deed(d, what);
            }
            h = 31 * (31 * h + was(d, 0)) + was(d, 1);
        }
        for (int county = 0; county < COUNTIES; county++) {
            h = 31 * (31 * h + cloth(HALF, county, 0)) + cloth(HALF, county, 1);
            h = 31 * (31 * h + cloth(LAST, county, 0)) + cloth(LAST, county, 1);
        }
        h = 31 * (31 * h + thorn(0)) + heaviest(0);
        h = 31 * (31 * h + thorn(HALF)) + heaviest(HALF);
        h = 31 * (31 * h + thorn(LAST)) + heaviest(LAST);
        h = 31 * (31 * h + tax(0)) + tax(1);
        h = 31 * (31 * h + first(0)) + first(1);
        for (int what = 0; what <= 2; what++) {
            h = 31 * h + plan(2, what);
        }
        h = 31 * (31 * h + spare(NONE)) + spare(0);
        h = 31 * h + never();
        return 31 * (31 * h + years(7, 9, 0)) + years(7, 9, 1);
    }

    private long digestPerson(long before, int p) {
        long h = before;
        for (int what = 0; what <= 2; what++) {
            h = 31 * h + person(p, what);
        }
        for (int i = 0; i < 4; i++) {
            int month = i == 0 ? 0 : i == 1 ? 5 : i == 2 ? HALF : LAST;
            for (int what = 0; what <= 2; what++) {
                h = 31 * h + wool(month, p, what);
            }
        }
        h = 31 * h + dies(p);
        h = 31 * (31 * h + light(p, 9, NONE)) + light(p, 9, 0);
        h = 31 * (31 * h + home(p, 0)) + home(p, 1);
        h = 31 * h + ask(p);
        return 31 * (31 * h + virtue(5, 5, p, 0)) + virtue(5, 5, p, 1);
    }

    private static boolean within(int v, int least, int most) {
        return v >= least && v <= most;
    }

    private static boolean isMonth(int month) {
        return within(month, 0, LAST);
    }

    private static boolean isCounty(int county) {
        return within(county, 0, COUNTIES - 1);
    }

    private static boolean isSheet(int s) {
        return within(s, 0, SHEETS - 1);
    }

    private boolean isPerson(int person) {
        return within(person, 0, told.people.count - 1);
    }

    private boolean isDeed(int deed) {
        return within(deed, 0, told.deeds.count - 1);
    }

    private Text textOf(int text) {
        return text == 0 ? peopleText : deedsText;
    }

    private void readTexts() {
        peopleText.readInto(told.people);
        deedsText.readInto(told.deeds);
        unsettle();
    }

    /** Answers that were worked out hold only until something else is told. */
    private void unsettle() {
        settled = false;
        plans.unsettle();
        witness.unsettle();
        chances.unsettle();
    }

    private void settle() {
        if (!settled) {
            course.run(LAST);
            settled = true;
        }
    }

    /** A list of things of three numbers each, in the order in which they were told. */
    private static final class Rows {
        final int[] first;
        final int[] second;
        final int[] third;
        int count = 0;

        Rows(int room) {
            int length = Math.max(room, 0);
            first = new int[length];
            second = new int[length];
            third = new int[length];
        }

        int append(int a, int b, int c) {
            if (count < 0 || count >= first.length) {
                return FULL;
            }
            first[count] = a;
            second[count] = b;
            third[count] = c;
            count++;
            return count;
        }

        int cell(int i, int column) {
            if (i < 0 || i >= count) {
                return NONE;
            }
            return column == 0 ? first[i] : column == 1 ? second[i] : third[i];
        }

        void setCell(int i, int column, int v) {
            if (i < 0 || i >= count) {
                return;
            }
            if (column == 0) {
                first[i] = v;
            } else if (column == 1) {
                second[i] = v;
            } else {
                third[i] = v;
            }
        }

        void takeOut(int i) {
            if (i < 0 || i >= count) {
                return;
            }
            int behind = count - i - 1;
            System.arraycopy(first, i + 1, first, i, behind);
            System.arraycopy(second, i + 1, second, i, behind);
            System.arraycopy(third, i + 1, third, i, behind);
            count--;
        }

        void become(Rows rows) {
            int many = Math.min(rows.count, first.length);
            System.arraycopy(rows.first, 0, first, 0, many);
            System.arraycopy(rows.second, 0, second, 0, many);
            System.arraycopy(rows.third, 0, third, 0, many);
            count = many;
        }
    }

    /** A text of things of three signs each; what a sign means is its place among those allowed there. */
    private static final class Text {
        private final int[] bytes;
        private final String firstSigns;
        private final String secondSigns;
        private final String thirdSigns;
        int length = 0;

        Text(int room, String firstSigns, String secondSigns, String thirdSigns) {
            this.bytes = new int[Math.max(room, 0)];
            this.firstSigns = firstSigns;
            this.secondSigns = secondSigns;
            this.thirdSigns = thirdSigns;
        }

        int append(int b) {
            if (length < 0 || length >= bytes.length) {
                return FULL;
            }
            bytes[length] = b;
            length++;
            return length;
        }

        // The room ends with the last thing that there may be, so one too many never begins.
        int faultPlace() {
            for (int i = 0; i < length; i++) {
                if (meaningAt(i) < 0) {
                    return i;
                }
            }
            return length == 0 || length % 4 == 3 ? NONE : length;
        }

        void readInto(Rows rows) {
            rows.count = 0;
            if (faultPlace() != NONE) {
                return;
            }
            for (int i = 0; i + 2 < length; i += 4) {
                rows.append(meaningAt(i), meaningAt(i + 1), meaningAt(i + 2));
            }
        }

        private int meaningAt(int i) {
            if (i < 0 || i >= bytes.length) {
                return NONE;
            }
            return signsAt(i % 4).indexOf((char) bytes[i]);
        }

        private String signsAt(int place) {
            switch (place) {
                case 0: return firstSigns;
                case 1: return secondSigns;
                case 2: return thirdSigns;
                default: return ";";
            }
        }
    }

    /** All that a Course depends on. */
    private static final class Told {
        /** Of each: its wool, its COUNTY, its WOOL at first. */
        final Rows people = new Rows(MOST_PEOPLE);
        /** Of each: its MONTH, by whom, what. */
        final Rows deeds = new Rows(MOST_DEEDS);
        /** Of each: its MONTH, its COUNTY, its PACE; a planned one needs a place behind all that may be told. */
        final Rows rounds = new Rows(MOST_ROUNDS + 1);
        /** Of each: its MONTH, who, to which COUNTY. */
        final Rows journeys = new Rows(MOST_JOURNEYS);
        /** Of each: its MONTH; by chance there may be one in the MONTH of every ROUND. */
        final Rows frosts = new Rows(MOST_ROUNDS);
        int grace = 3;
        int cold = 10;

        void become(Told told) {
            people.become(told.people);
            deeds.become(told.deeds);
            rounds.become(told.rounds);
            journeys.become(told.journeys);
            frosts.become(told.frosts);
            grace = told.grace;
            cold = told.cold;
        }
    }

    /** The MONTHS as they go by for what is told, with a row of all that stands behind each. */
    private static final class Course {
        private final Told told;
        private final int[] now = new int[ROW];
        private final int[] rows = new int[MONTHS * ROW];
        private final int[] deaths = new int[MOST_PEOPLE];
        int firstMonth = NONE;
        int firstWho = NONE;

        Course(Told told) {
            this.told = told;
        }

        void run(int last) {
            begin();
            int deedMonths = monthsOf(told.deeds);
            int journeyMonths = monthsOf(told.journeys);
            int roundMonths = monthsOf(told.rounds);
            int frostMonths = monthsOf(told.frosts);
            for (int month = 0; month <= last && month < MONTHS; month++) {
                int bit = 1 << month;
                int doers = (deedMonths & bit) != 0 ? doDeeds(month) : 0;
                moult(doers);
                if ((journeyMonths & bit) != 0) {
                    travel(month);
                }
                if ((roundMonths & bit) != 0) {
                    makeRounds(month, (frostMonths & bit) != 0);
                }
                System.arraycopy(now, 0, rows, month * ROW, ROW);
            }
        }

        private void begin() {
            Arrays.fill(now, 0);
            Arrays.fill(deaths, NONE);
            firstMonth = NONE;
            firstWho = NONE;
            Rows people = told.people;
            for (int p = 0; p < people.count; p++) {
                now[COUNTY + p] = people.second[p];
                now[WOOL + p] = people.third[p];
            }
        }

        static int monthsOf(Rows things) {
            int months = 0;
            for (int i = 0; i < things.count; i++) {
                months |= 1 << things.first[i];
            }
            return months;
        }

        private int doDeeds(int month) {
            Rows deeds = told.deeds;
            int doers = 0;
            for (int i = 0; i < deeds.count; i++) {
                int who = deeds.second[i];
                if (deeds.first[i] == month && lives(who)) {
                    now[WOOL + who] += growth(told.people.first[who], deeds.third[i]);
                    doers |= 1 << who;
                }
            }
            return doers;
        }

        private static int growth(int wool, int what) {
            int weight = what == 0 ? 1 : what == 1 ? 3 : what == 2 ? 4 : 9;
            switch (wool) {
                case 0: return weight / 2 + 1;
                case 1: return 2 * weight;
                default: return weight;
            }
        }

        private void moult(int doers) {
            for (int p = 0; p < told.people.count; p++) {
                int wool = now[WOOL + p];
                if (wool > 0 && wool <= told.grace && deaths[p] == NONE && ((doers >> p) & 1) == 0) {
                    now[WOOL + p] = wool - 1;
                }
            }
        }

        private void travel(int month) {
            Rows journeys = told.journeys;
            for (int i = 0; i < journeys.count; i++) {
                int who = journeys.second[i];
                if (journeys.first[i] == month && lives(who) && now[COUNTY + who] != journeys.third[i]) {
                    int caught = Math.min(2, now[WOOL + who]);
                    now[WOOL + who] -= caught;
                    now[THORN] += caught;
                    now[COUNTY + who] = journeys.third[i];
                }
            }
        }

        private void makeRounds(int month, boolean frost) {
            Rows rounds = told.rounds;
            for (int i = 0; i < rounds.count; i++) {
                if (rounds.first[i] != month) {
                    continue;
                }
                int who = woolliestIn(rounds.second[i]);
                for (int done = 0; done < rounds.third[i] && who != NONE; done++) {
                    shear(month, who, frost);
                    who = woolliestIn(rounds.second[i]);
                }
            }
        }

        private int woolliestIn(int county) {
            int who = NONE;
            int most = 0;
            for (int p = 0; p < told.people.count; p++) {
                if (now[WOOL + p] > most && now[COUNTY + p] == county && deaths[p] == NONE) {
                    who = p;
                    most = now[WOOL + p];
                }
            }
            return who;
        }

        private void shear(int month, int who, boolean frost) {
            int much = now[WOOL + who];
            int county = now[COUNTY + who];
            int wool = told.people.first[who];
            now[WOOL + who] = 0;
            now[SHORN + who]++;
            now[TAKEN + who] += much;
            now[CLOTH + county] += much;
            now[WORTH + county] += much * (wool == 0 ? 3 : wool == 1 ? 1 : 2);
            if (firstMonth == NONE) {
                firstMonth = month;
                firstWho = who;
            }
            if (frost && much >= told.cold) {
                deaths[who] = month;
            }
        }

        // DEEDS and JOURNEYS may name somebody that there is not.
        private boolean lives(int who) {
            return who >= 0 && who < told.people.count && deaths[who] == NONE;
        }

        private boolean livesBehind(int month, int p) {
            return deaths[p] == NONE || deaths[p] > month;
        }

        int behind(int month, int part) {
            if (month < 0 || month >= MONTHS || part < 0 || part >= ROW) {
                return NONE;
            }
            return rows[month * ROW + part];
        }

        int deathOf(int p) {
            return p >= 0 && p < deaths.length ? deaths[p] : NONE;
        }

        int living() {
            int many = 0;
            for (int p = 0; p < told.people.count; p++) {
                many += deaths[p] == NONE ? 1 : 0;
            }
            return many;
        }

        int taxBehind(int month) {
            int all = 0;
            for (int p = 0; p < told.people.count; p++) {
                all += livesBehind(month, p) ? behind(month, WOOL + p) : 0;
            }
            return all;
        }

        int heaviestBehind(int month) {
            int who = NONE;
            int most = NONE;
            for (int p = 0; p < told.people.count; p++) {
                if (livesBehind(month, p) && behind(month, WOOL + p) > most) {
                    who = p;
                    most = behind(month, WOOL + p);
                }
            }
            return who;
        }

        int worthInAll() {
            int all = 0;
            for (int county = 0; county < COUNTIES; county++) {
                all += behind(LAST, WORTH + county);
            }
            return all;
        }
    }

    /** How it would have been: a copy of what is told, to be altered and run. */
    private static final class Other {
        final Told told;
        final Told as = new Told();
        final Course course = new Course(as);

        Other(Told told) {
            this.told = told;
        }

        void afresh() {
            as.become(told);
        }
    }

    /** Rows of up to two out of so many things: fewest first, of like ones the least. */
    private static final class Choice {
        private int one = NONE;
        private int two = NONE;

        void begin() {
            one = NONE;
            two = NONE;
        }

        boolean goOn(int things) {
            if (two == NONE && one + 1 < things) {
                one++;
                return true;
            }
            if (two == NONE) {
                one = 0;
                two = 1;
            } else if (two + 1 < things) {
                two++;
            } else {
                one++;
                two = one + 1;
            }
            return two < things;
        }

        /** The later one first, so that the other keeps its place. */
        void takeOutOf(Rows rows) {
            rows.takeOut(two);
            rows.takeOut(one);
        }

        int tell(int i) {
            if (i == NONE) {
                return one == NONE ? 0 : two == NONE ? 1 : 2;
            }
            return i == 0 ? one : two;
        }
    }

    /** What had better be done, or not be done. */
    private static final class Plans {
        private final Other other;
        private final Choice choice = new Choice();
        /** The most WOOL behind any MONTH, for each row of DEEDS left out, of each PERSON. */
        private final int[] highest = new int[MOST_CHOICES * MOST_PEOPLE];
        private int measured = 0;
        private int bestPace = NONE;
        int bestMonth = NONE;
        int bestCounty = NONE;
        int bestWorth = NONE;
        private int homePerson = NONE;
        int homeCounty = NONE;
        int homeMuch = NONE;

        Plans(Other other) {
            this.other = other;
        }

        void unsettle() {
            measured = 0;
            bestPace = NONE;
            homePerson = NONE;
        }

        void findRound(int pace) {
            if (bestPace == pace) {
                return;
            }
            bestPace = pace;
            bestWorth = NONE;
            for (int month = 0; month < MONTHS; month++) {
                for (int county = 0; county < COUNTIES; county++) {
                    other.afresh();
                    other.as.rounds.append(month, county, pace);
                    other.course.run(LAST);
                    int worth = other.course.worthInAll();
                    if (worth > bestWorth) {
                        bestWorth = worth;
                        bestMonth = month;
                        bestCounty = county;
                    }
                }
            }
        }

        int fewestDeeds(int person, int most, int i) {
            choice.begin();
            for (int row = 0; row < MOST_CHOICES; row++) {
                if (row >= measured) {
                    other.afresh();
                    choice.takeOutOf(other.as.deeds);
                    other.course.run(LAST);
                    measure(row);
                }
                if (highest[row * MOST_PEOPLE + person] <= most) {
                    return choice.tell(i);
                }
                if (!choice.goOn(other.told.deeds.count)) {
                    return NONE;
                }
            }
            return NONE;
        }

        private void measure(int row) {
            for (int p = 0; p < other.told.people.count; p++) {
                int most = 0;
                for (int month = 0; month < MONTHS; month++) {
                    most = Math.max(most, other.course.behind(month, WOOL + p));
                }
                highest[row * MOST_PEOPLE + p] = most;
            }
            measured = row + 1;
        }

        int fewestRounds(int i) {
            choice.begin();
            for (int row = 0; row < MOST_CHOICES; row++) {
                other.afresh();
                choice.takeOutOf(other.as.rounds);
                other.course.run(LAST);
                if (other.course.living() == other.told.people.count) {
                    return choice.tell(i);
                }
                if (!choice.goOn(other.told.rounds.count)) {
                    return NONE;
                }
            }
            return NONE;
        }

        void findHome(int person) {
            if (homePerson == person) {
                return;
            }
            homePerson = person;
            homeMuch = NONE;
            for (int county = 0; county < COUNTIES; county++) {
                other.afresh();
                other.as.people.setCell(person, 1, county);
                other.course.run(LAST);
                int much = other.course.behind(LAST, TAKEN + person);
                if (much > homeMuch) {
                    homeMuch = much;
                    homeCounty = county;
                }
            }
        }
    }

    /** What was SEEN, and what may have been so that it was. */
    private static final class Witness {
        final Rows seen = new Rows(MOST_SEEN);
        /** DEEDS, as bits, but for each of which all SEEN is so. */
        int never = 0;
        private final Other other;
        /** WOOL, had a DEED alone not been: by DEED, then MONTH, then PERSON. */
        private final int[] wools = new int[MOST_DEEDS * MONTHS * MOST_PEOPLE];
        private boolean surveyed = false;

        Witness(Other other) {
            this.other = other;
        }

        void unsettle() {
            surveyed = false;
        }

        void survey() {
            if (surveyed) {
                return;
            }
            surveyed = true;
            never = 0;
            for (int deed = 0; deed < other.told.deeds.count; deed++) {
                other.afresh();
                other.as.deeds.takeOut(deed);
                other.course.run(LAST);
                keepWools(deed);
                never |= comesOut() ? 1 << deed : 0;
            }
        }

        private void keepWools(int deed) {
            for (int month = 0; month < MONTHS; month++) {
                for (int p = 0; p < other.told.people.count; p++) {
                    wools[placeOf(deed, month, p)] = other.course.behind(month, WOOL + p);
                }
            }
        }

        private static int placeOf(int deed, int month, int p) {
            return (deed * MONTHS + month) * MOST_PEOPLE + p;
        }

        /** Which of so many values, as bits, in a column of a DEED make all SEEN come out so. */
        int fitting(int deed, int column, int values) {
            int last = lastSeen();
            int bits = 0;
            for (int v = 0; v < values; v++) {
                other.afresh();
                other.as.deeds.setCell(deed, column, v);
                other.course.run(last);
                bits |= comesOut() ? 1 << v : 0;
            }
            return bits;
        }

        private int lastSeen() {
            int last = NONE;
            for (int i = 0; i < seen.count; i++) {
                last = Math.max(last, seen.first[i]);
            }
            return last;
        }

        private boolean comesOut() {
            for (int i = 0; i < seen.count; i++) {
                int who = seen.second[i];
                if (who >= other.told.people.count
                        || other.course.behind(seen.first[i], WOOL + who) != seen.third[i]) {
                    return false;
                }
            }
            return true;
        }

        int monthToAsk(int person) {
            int best = 0;
            int least = MOST_DEEDS + 1;
            for (int month = 0; month < MONTHS; month++) {
                int most = mostAlike(month, person);
                if (most < least) {
                    least = most;
                    best = month;
                }
            }
            return best;
        }

        private int mostAlike(int month, int person) {
            int most = 0;
            for (int deed = 0; deed < other.told.deeds.count; deed++) {
                if (((never >> deed) & 1) != 0) {
                    most = Math.max(most, manyLike(deed, month, person));
                }
            }
            return most;
        }

        private int manyLike(int deed, int month, int person) {
            int wool = wools[placeOf(deed, month, person)];
            int many = 0;
            for (int d = 0; d < other.told.deeds.count; d++) {
                if (((never >> d) & 1) != 0 && wools[placeOf(d, month, person)] == wool) {
                    many++;
                }
            }
            return many;
        }
    }

    /** FROSTS by chance, and other years by a SEED. */
    private static final class Chances {
        private final Other other;
        private final long[] above = new long[MOST_PEOPLE];
        private final long[] below = new long[MOST_PEOPLE];
        private int knownSixteenths = NONE;
        private int knownLast = NONE;
        private int lotSeed = 0;

        Chances(Other other) {
            this.other = other;
        }

        void unsettle() {
            knownSixteenths = NONE;
        }

        long above(int p) {
            return p >= 0 && p < above.length ? above[p] : 0;
        }

        long below(int p) {
            return p >= 0 && p < below.length ? below[p] : 1;
        }

        /** FROST tells only in a MONTH with ROUNDS, so no other MONTH is looked at. */
        void findLiving(int sixteenths, int last) {
            if (knownSixteenths == sixteenths && knownLast == last) {
                return;
            }
            knownSixteenths = sixteenths;
            knownLast = last;
            int months = Course.monthsOf(other.told.rounds) & ((2 << last) - 1);
            int telling = Integer.bitCount(months);
            Arrays.fill(above, 0L);
            Arrays.fill(below, power(16, telling));
            int frosts = 0;
            for (int i = 0; i < 1 << telling; i++) {
                int many = Integer.bitCount(frosts);
                long weight = power(sixteenths, many) * power(16 - sixteenths, telling - many);
                if (weight > 0) {
                    other.afresh();
                    supposeFrosts(frosts, last);
                    other.course.run(last);
                    addToLiving(weight);
                }
                // Counting up within the bits of these months alone.
                frosts = (frosts - months) & months;
            }
            for (int p = 0; p < MOST_PEOPLE; p++) {
                reduce(p);
            }
        }

        private void supposeFrosts(int frosts, int last) {
            other.as.frosts.count = 0;
            for (int month = 0; month <= last; month++) {
                if (((frosts >> month) & 1) != 0) {
                    other.as.frosts.append(month, 0, 0);
                }
            }
        }

        private void addToLiving(long weight) {
            for (int p = 0; p < MOST_PEOPLE; p++) {
                above[p] += other.course.deathOf(p) == NONE ? weight : 0;
            }
        }

        /** What stands below is a power of two: halving is enough. */
        private void reduce(int p) {
            for (int i = 0; i < 64 && below[p] > 1 && (above[p] & 1) == 0; i++) {
                above[p] >>= 1;
                below[p] >>= 1;
            }
        }

        private static long power(int base, int times) {
            long product = 1;
            for (int i = 0; i < times; i++) {
                product *= base;
            }
            return product;
        }

        void runYears(int seed, int n) {
            other.afresh();
            other.as.deeds.count = 0;
            lotSeed = seed;
            int people = other.as.people.count;
            for (int i = 0; i < n && people > 0; i++) {
                int month = lot(MONTHS);
                int who = lot(people);
                int what = lot(KINDS);
                other.as.deeds.append(month, who, what);
            }
            other.course.run(LAST);
        }

        private int lot(int m) {
            lotSeed = 1103515245 * lotSeed + 12345;
            return m > 0 ? (lotSeed >>> 16) % m : 0;
        }
    }

    /** The SHEETS, each with a place for all the items that it may have, so that a new one makes nothing. */
    private static final class Sheets {
        private final int[] forms = new int[SHEETS];
        private final int[] lengths = new int[SHEETS];
        private final int[] items = new int[SHEETS * ITEMS];
        int latest = 0;

        Sheets() {
            Arrays.fill(forms, NONE);
        }

        int finding(int number) {
            latest = number;
            return -10 - number;
        }

        boolean isLost(int s) {
            return s < 0 || s >= forms.length || forms[s] == NONE;
        }

        int length(int s) {
            return isLost(s) ? 0 : lengths[s];
        }

        int renew(int s, int form, int n) {
            if (s < 0 || s >= forms.length || n < 0 || n > ITEMS) {
                return BAD;
            }
            forms[s] = form;
            lengths[s] = n;
            for (int i = 0; i < ITEMS; i++) {
                items[s * ITEMS + i] = 0;
            }
            return n;
        }

        int drop(int s) {
            if (isLost(s)) {
                return 0;
            }
            forms[s] = NONE;
            return lengths[s];
        }

        boolean holds(int s, int i, int n) {
            return i >= 0 && n >= 0 && i <= length(s) - n;
        }

        boolean alike(int s, int t) {
            return !isLost(s) && !isLost(t) && forms[s] == forms[t];
        }

        /** The FINDING at an item treated as of a form; 0 if there is none. */
        int faultAt(int s, int form, int i) {
            if (isLost(s)) {
                return NULL;
            }
            if (forms[s] != form) {
                return CAST;
            }
            return holds(s, i, 1) ? 0 : INDEX;
        }

        int item(int s, int i) {
            return holds(s, i, 1) ? items[s * ITEMS + i] : 0;
        }

        void store(int s, int i, int v) {
            if (holds(s, i, 1)) {
                items[s * ITEMS + i] = forms[s] == BYTES ? (byte) v : forms[s] == SHORTS ? (short) v : v;
            }
        }

        void move(int s, int i, int t, int j, int n) {
            if (holds(s, i, n) && holds(t, j, n)) {
                System.arraycopy(items, s * ITEMS + i, items, t * ITEMS + j, n);
            }
        }
    }
}
