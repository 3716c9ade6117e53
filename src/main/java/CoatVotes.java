/**
 * Votes that are buttons off one's coat, and who freezes by them. What each call answers is told by
 * the project's document; all rows are made once, with the object, so that calls make no objects.
 */
public final class CoatVotes {
    private static final int LOW = -1000000000;
    private static final int BEYOND = 1;
    private static final int NONE = 2;
    private static final int STATE = 3;
    private static final int FULL = 4;
    private static final int UNLIKE = 5;

    private static final int MOST_PEOPLE = 8;
    private static final int MOST_MOTIONS = 6;
    private static final int MOST_BUTTONS = 9;
    private static final int MOST_IN_URN = 999;
    private static final int MOST_BYTES = 50;
    private static final int MOST_OPEN_SIGNS = 5;
    private static final int MOST_WAITING = 20;
    private static final int MOST_SHEETS = 4;
    private static final int MOST_NUMBERS = 40;
    private static final int MOST_TRACED = 40;
    private static final int LAST_DAY = 9999;
    private static final int FORESIGHT = 60;
    private static final int NINETY_NINE = 99;

    private static final int KINDS = 7;
    private static final int COAT = 0;
    private static final int GREATCOAT = 1;
    private static final int STRING = 2;
    private static final int PASSIONATE = 3;
    private static final int SENATOR = 4;
    private static final int BEGGAR = 5;
    private static final int RADICAL = 6;
    /** The KIND above each KIND. */
    private static final int[] ABOVE = {-1, COAT, COAT, COAT, GREATCOAT, STRING, PASSIONATE};
    /** The KIND whose way of being WILLING and of choosing buttons each KIND has. */
    private static final int[] MANNER = {COAT, COAT, STRING, PASSIONATE, COAT, STRING, PASSIONATE};
    /** How many buttons each KIND CUTS, if it has so many. */
    private static final int[] BUTTONS = {1, 1, 0, 1, 1, 0, 2};
    /** The numbers of BODIES: four acts of each KIND; 0 where a KIND has no BODY of its own. */
    private static final int[] BODIES = {
        10, 11, 12, 13, 0, 0, 20, 0, 30, 0, 0, 0, 0, 40, 0, 0, 0, 0, 50, 51, 0, 0, 0, 60, 0, 70, 0, 0};

    private final World now = new World();
    private final World kept = new World();
    private final Folk thought = new Folk();
    private final Parser parser = new Parser();
    private final Voices voices = new Voices();
    private final Sheet[] sheets = new Sheet[MOST_SHEETS];
    private final int[] colds = new int[FORESIGHT];
    private final int[] errors = new int[UNLIKE + 1];
    private int images;

    public CoatVotes() {
        for (int i = 0; i < sheets.length; i++) {
            sheets[i] = new Sheet();
        }
    }

    // ---- people, motions

    public int person(int km) {
        if (!isKindAndMark(km)) {
            return fail(BEYOND);
        }
        Folk folk = now.folk;
        int p = folk.size;
        if (p >= MOST_PEOPLE) {
            return fail(FULL);
        }
        folk.size = p + 1;
        folk.kind[p] = km / 10;
        folk.mark[p] = km % 10;
        folk.horn[p] = 4;
        folk.brass[p] = 1;
        folk.open[p] = 0;
        folk.health[p] = NINETY_NINE;
        return p;
    }

    public int ofPerson(int person, int what) {
        Folk folk = now.folk;
        if (!folk.has(person)) {
            return fail(BEYOND);
        }
        switch (what) {
            case 0: return folk.kind[person];
            case 1: return folk.mark[person];
            case 2: return folk.horn[person];
            case 3: return folk.brass[person];
            case 4: return folk.open[person];
            case 5: return folk.health[person];
            case 6: return folk.isWilling(person) ? 1 : 0;
            case 7: return folk.cutsHorn(person) + folk.cutsBrass(person);
            case 8: return folk.counts(person);
            case 9: return folk.chillOf(person, chillText(person));
            default: return fail(BEYOND);
        }
    }

    public int change(int person, int what, int v) {
        if (!now.folk.has(person) || what < 0 || what > 3 || v < 0) {
            return fail(BEYOND);
        }
        if (v > (what < 2 ? MOST_BUTTONS : NINETY_NINE)) {
            return fail(BEYOND);
        }
        int[] row = now.folk.rowOf(what);
        int old = row[person];
        row[person] = v;
        return old;
    }

    public int become(int person, int km) {
        Folk folk = now.folk;
        if (!folk.has(person) || !isKindAndMark(km)) {
            return fail(BEYOND);
        }
        int old = folk.kind[person];
        folk.kind[person] = km / 10;
        folk.mark[person] = km % 10;
        return old;
    }

    public int as(int person, int kind) {
        Folk folk = now.folk;
        if (!folk.has(person) || kind < 0 || kind >= KINDS) {
            return fail(BEYOND);
        }
        if (!isUnder(folk.kind[person], kind)) {
            return fail(UNLIKE);
        }
        return folk.mark[person];
    }

    public int motion(int quorum, int set) {
        if (quorum < 0 || quorum > NINETY_NINE || !isSetOfPeople(set)) {
            return fail(BEYOND);
        }
        int i = now.motions;
        if (i >= MOST_MOTIONS) {
            return fail(FULL);
        }
        now.motions = i + 1;
        now.quorum[i] = quorum;
        now.favour[i] = set;
        return i;
    }

    public int ofMotion(int motion, int what) {
        if (!now.hasMotion(motion)) {
            return fail(BEYOND);
        }
        int favour = now.favour[motion];
        switch (what) {
            case 0: return now.quorum[motion];
            case 1: return favour;
            case 2: return isIn(now.laws, motion) ? 1 : 0;
            case 3: return now.folk.countsOf(favour);
            case 4: return now.folk.countsOf(~favour);
            case 5: return now.folk.wouldPass(favour, now.quorum[motion]) ? 1 : 0;
            default: return fail(BEYOND);
        }
    }

    public int side(int motion, int set) {
        if (!now.hasMotion(motion) || !isSetOfPeople(set)) {
            return fail(BEYOND);
        }
        int old = now.favour[motion];
        now.favour[motion] = set;
        return old;
    }

    public int set(int what, int v) {
        int most = what == 0 ? 9 : NINETY_NINE;
        if (what < 0 || what > 1 || v < 0 || v > most) {
            return fail(BEYOND);
        }
        int old = what == 0 ? now.winter : now.thread;
        if (what == 0) {
            now.winter = v;
        } else {
            now.thread = v;
        }
        return old;
    }

    // ---- texts

    public int feed(long word, int n) {
        if (n < 1 || n > 8) {
            return fail(BEYOND);
        }
        if (now.taped + n > MOST_BYTES) {
            return fail(FULL);
        }
        for (int i = 0; i < n; i++) {
            now.tape[now.taped + i] = (int) ((word >>> (8 * i)) & 255);
        }
        now.taped += n;
        return now.taped;
    }

    public int text(int use) {
        if (use < 0 || use > 1) {
            return fail(BEYOND);
        }
        int fault = parser.read(now.tape, now.taped, use);
        now.taped = 0;
        if (fault >= 0) {
            return -10 - fault;
        }
        now.textOf(use).take(parser.codes, parser.size);
        return 1;
    }

    public int law(int use, int a, int b, int c) {
        if (use < 0 || use > 1) {
            return fail(BEYOND);
        }
        return now.textOf(use).gives(a, b, c);
    }

    // ---- votes, days

    public int vote(int motion) {
        if (!now.hasMotion(motion)) {
            return fail(BEYOND);
        }
        return now.holdVote(motion) ? 1 : 0;
    }

    public int sew(int person, int brass) {
        Folk folk = now.folk;
        if (!folk.has(person) || brass < 0 || brass > 1) {
            return fail(BEYOND);
        }
        int[] buttons = folk.rowOf(brass);
        if (buttons[person] >= MOST_BUTTONS) {
            return fail(BEYOND);
        }
        int lying = brass == 1 ? now.urnBrass : now.urnHorn;
        if (folk.health[person] == 0 || now.thread == 0 || lying == 0 || folk.open[person] == 0) {
            return fail(STATE);
        }
        if (brass == 1) {
            now.urnBrass--;
        } else {
            now.urnHorn--;
        }
        now.thread--;
        buttons[person]++;
        folk.open[person]--;
        return folk.open[person];
    }

    public int days(int n) {
        if (n < 1 || n > FORESIGHT) {
            return fail(BEYOND);
        }
        if (now.day + n > LAST_DAY) {
            return fail(STATE);
        }
        for (int i = 0; i < n; i++) {
            now.passDay();
        }
        return Integer.bitCount(now.folk.living());
    }

    public int loose(int n) {
        if (n < 1 || n > 40) {
            return fail(BEYOND);
        }
        if (now.day + n > LAST_DAY) {
            return fail(STATE);
        }
        for (int i = 0; i < n; i++) {
            now.winter = now.draw() % 10;
            if (now.motions > 0) {
                now.holdVote(now.draw() % now.motions);
            }
            now.passDay();
        }
        return Integer.bitCount(now.folk.living());
    }

    // ---- what would be

    public int live(int n) {
        if (n < 0 || n > FORESIGHT) {
            return fail(BEYOND);
        }
        foreseeColds(now.winter, n);
        Folk folk = now.folk;
        int set = 0;
        for (int p = 0; p < folk.size; p++) {
            if (lasts(p, folk.open[p], n)) {
                set |= 1 << p;
            }
        }
        return set;
    }

    public int freezes(int person) {
        if (!now.folk.has(person)) {
            return fail(BEYOND);
        }
        foreseeColds(now.winter, FORESIGHT);
        int day = dayOfDeath(person, now.folk.open[person], FORESIGHT);
        return day > FORESIGHT ? fail(NONE) : day;
    }

    public int firstDay(int motion) {
        if (!now.hasMotion(motion)) {
            return fail(BEYOND);
        }
        foreseeColds(now.winter, FORESIGHT);
        thought.copy(now.folk);
        for (int day = 0; day <= FORESIGHT; day++) {
            if (thought.wouldPass(now.favour[motion], now.quorum[motion])) {
                return day;
            }
            if (day < colds.length) {
                thought.passDay(colds[day], now.chill);
            }
        }
        return fail(NONE);
    }

    public int turning(int motion) {
        if (!now.hasMotion(motion)) {
            return fail(BEYOND);
        }
        int favour = now.favour[motion];
        int quorum = now.quorum[motion];
        boolean passes = now.folk.wouldPass(favour, quorum);
        int set = 0;
        for (int p = 0; p < now.folk.size; p++) {
            if (now.folk.wouldPass(favour ^ (1 << p), quorum) != passes) {
                set |= 1 << p;
            }
        }
        return set;
    }

    public int spends(int person, int n) {
        Folk folk = now.folk;
        if (!folk.has(person) || n < 0 || n > FORESIGHT) {
            return fail(BEYOND);
        }
        foreseeColds(now.winter, n);
        int most = folk.horn[person] + folk.brass[person];
        // A TEXT may chill less by more that is OPEN, so every number is tried, the greatest first.
        for (int k = most; k > 0; k--) {
            if (lasts(person, Math.min(NINETY_NINE, folk.open[person] + k), n)) {
                return k;
            }
        }
        return 0;
    }

    public int plan(int set, int n, int what) {
        int size = Integer.bitCount(set);
        if (set < 1 || set >= (1 << now.motions) || size > 3) {
            return fail(BEYOND);
        }
        if (n < 1 || n > 5 || what < -2 || what >= size) {
            return fail(BEYOND);
        }
        int rows = size == 1 ? n : size == 2 ? n * n : n * n * n;
        int best = 0;
        int bestWorth = -1;
        for (int row = 0; row < rows; row++) {
            int worth = playPlan(set, n, row);
            if (worth > bestWorth) {
                bestWorth = worth;
                best = row;
            }
        }
        if (what == -1) {
            return bestWorth / 10;
        }
        return what == -2 ? bestWorth % 10 : dayInRow(best, n, size - 1 - what);
    }

    public int tailor(int n) {
        if (n < 0 || n > FORESIGHT) {
            return fail(BEYOND);
        }
        foreseeColds(now.winter, n);
        int all = 0;
        for (int p = 0; p < now.folk.size; p++) {
            if (now.folk.health[p] > 0) {
                int fewest = fewestSewn(p, n);
                if (fewest < 0) {
                    return fail(NONE);
                }
                all += fewest;
            }
        }
        return all;
    }

    public int voted(int sheet, int what) {
        if (!isSheet(sheet) || what < 0 || what > 1) {
            return fail(BEYOND);
        }
        Sheet told = sheets[sheet];
        if (told.bits == 0 || told.size != 2) {
            return fail(NONE);
        }
        int sets = 0;
        int least = -1;
        for (int set = 0; set < (1 << now.folk.size); set++) {
            if (now.folk.hornOf(set) == told.numbers[0] && now.folk.brassOf(set) == told.numbers[1]) {
                sets++;
                least = least < 0 ? set : least;
            }
        }
        if (what == 0) {
            return sets;
        }
        return least < 0 ? fail(NONE) : least;
    }

    public int harder(int n) {
        if (n < 0 || n > FORESIGHT) {
            return fail(BEYOND);
        }
        Folk folk = now.folk;
        for (int winter = 0; winter <= 9; winter++) {
            foreseeColds(winter, n);
            for (int p = 0; p < folk.size; p++) {
                if (folk.health[p] > 0 && !lasts(p, folk.open[p], n)) {
                    return winter;
                }
            }
        }
        return fail(NONE);
    }

    // ---- draws, voices, sheets, images, what is told

    public int seed(int v) {
        int old = now.z;
        now.z = v;
        return old;
    }

    public int voice(int person, int act, int x) {
        Folk folk = now.folk;
        if (!folk.has(person) || act < 0 || act > 3) {
            return fail(BEYOND);
        }
        return voices.speak(folk.kind[person], folk.mark[person], person, act, x);
    }

    public int trace(int i) {
        if (i < 0 || i >= voices.traced) {
            return fail(NONE);
        }
        return voices.traces[i];
    }

    public int sheet(int sheet, int bits, int n) {
        if (!isSheet(sheet) || !isBits(bits)) {
            return fail(BEYOND);
        }
        if (bits != 0 && n < 0) {
            return fail(STATE);
        }
        if (bits != 0 && n > MOST_NUMBERS) {
            return fail(BEYOND);
        }
        sheets[sheet].lay(bits, bits == 0 ? 0 : n);
        return 1;
    }

    public int put(int sheet, int i, int v) {
        if (!isSheet(sheet)) {
            return fail(BEYOND);
        }
        Sheet row = sheets[sheet];
        if (row.bits == 0) {
            return fail(NONE);
        }
        if (i < 0 || i >= row.size) {
            return fail(BEYOND);
        }
        row.write(i, v);
        return 1;
    }

    public int move(int sheet, int i, int other, int j, int n) {
        if (!isSheet(sheet) || !isSheet(other)) {
            return fail(BEYOND);
        }
        Sheet from = sheets[sheet];
        Sheet to = sheets[other];
        if (from.bits == 0 || to.bits == 0) {
            return fail(NONE);
        }
        if (from.bits != to.bits) {
            return fail(UNLIKE);
        }
        if (!from.holds(i, n) || !to.holds(j, n)) {
            return fail(BEYOND);
        }
        System.arraycopy(from.numbers, i, to.numbers, j, n);
        return n;
    }

    public int healths(int sheet) {
        if (!isSheet(sheet)) {
            return fail(BEYOND);
        }
        Sheet row = sheets[sheet];
        if (row.bits == 0) {
            return fail(NONE);
        }
        int most = Math.min(row.size, now.folk.size);
        for (int p = 0; p < most; p++) {
            int v = row.numbers[p];
            if (v < 0 || v > NINETY_NINE) {
                return p;
            }
            now.folk.health[p] = v;
        }
        return most;
    }

    public int judge(int sheet) {
        if (!isSheet(sheet)) {
            return fail(BEYOND);
        }
        Sheet row = sheets[sheet];
        if (row.bits == 0) {
            return fail(NONE);
        }
        int most = Math.min(row.size, now.folk.size);
        for (int p = 0; p < most; p++) {
            if (row.numbers[p] != now.folk.open[p]) {
                return p;
            }
        }
        return row.size == now.folk.size ? -1 : most;
    }

    public int image() {
        kept.copy(now);
        images++;
        return images;
    }

    public int restore() {
        if (images == 0) {
            return fail(NONE);
        }
        now.copy(kept);
        return now.day;
    }

    public int tell(int v) {
        if (now.waits >= MOST_WAITING) {
            return fail(FULL);
        }
        now.waiting[now.waits] = v;
        now.waits++;
        return now.waits;
    }

    public int check() {
        int waits = now.waits;
        now.waits = 0;
        foreseeColds(now.winter, waits);
        thought.copy(now.folk);
        for (int i = 0; i < waits; i++) {
            thought.passDay(colds[i], now.chill);
            if (now.waiting[i] != Integer.bitCount(thought.living())) {
                return 1 + i;
            }
        }
        return 0;
    }

    public int count(int what) {
        switch (what) {
            case 0: return now.folk.size;
            case 1: return now.motions;
            case 2: return now.day;
            case 3: return Integer.bitCount(now.folk.living());
            case 4: return now.laws;
            case 5: return now.urnHorn;
            case 6: return now.urnBrass;
            case 7: return now.thread;
            case 8: return now.winter;
            case 9: return now.coldOf(now.day, now.winter, now.laws);
            case 10: return now.taped;
            case 11: return now.waits;
            case 12: return voices.traced;
            case 13: return now.z;
            default: return fail(BEYOND);
        }
    }

    public int told(int k) {
        if (k < BEYOND || k > UNLIKE) {
            return fail(BEYOND);
        }
        return errors[k];
    }

    // ---- what the calls share

    private int fail(int error) {
        errors[error]++;
        return LOW - error;
    }

    private boolean isKindAndMark(int km) {
        return km >= 0 && km < 10 * KINDS;
    }

    private boolean isSetOfPeople(int set) {
        return set >= 0 && set < (1 << MOST_PEOPLE);
    }

    private boolean isSheet(int sheet) {
        return sheet >= 0 && sheet < MOST_SHEETS;
    }

    private boolean isBits(int bits) {
        return bits == 0 || bits == 8 || bits == 16 || bits == 32;
    }

    private static boolean isIn(int set, int i) {
        return ((set >> i) & 1) != 0;
    }

    private static boolean isUnder(int kind, int other) {
        int k = kind;
        for (int i = 0; i < KINDS && k >= 0; i++) {
            if (k == other) {
                return true;
            }
            k = ABOVE[k];
        }
        return false;
    }

    /** What the TEXT of CHILL gives for somebody by the COLD of this DAY. */
    private int chillText(int p) {
        int cold = now.coldOf(now.day, now.winter, now.laws);
        return now.chill.gives(cold, now.folk.open[p], now.folk.health[p]);
    }

    /** Only a VOTE could change how many LAWS there are, so the COLD of coming DAYS is known ahead. */
    private void foreseeColds(int winter, int n) {
        for (int i = 0; i < n && i < colds.length; i++) {
            colds[i] = now.coldOf(now.day + i, winter, now.laws);
        }
    }

    /** Behind how many of the foreseen DAYS somebody with so much OPEN is DEAD; n + 1, if not by n. */
    private int dayOfDeath(int p, int open, int n) {
        int health = now.folk.health[p];
        for (int day = 0; day < n && day < colds.length; day++) {
            if (health == 0) {
                return day;
            }
            health = now.folk.healthBehind(p, open, health, colds[day], now.chill);
        }
        return health == 0 ? n : n + 1;
    }

    private boolean lasts(int p, int open, int n) {
        return dayOfDeath(p, open, n) > n;
    }

    /** -1, if there is no number by which somebody lasts. */
    private int fewestSewn(int p, int n) {
        int open = now.folk.open[p];
        for (int k = 0; k <= open; k++) {
            if (lasts(p, open - k, n)) {
                return k;
            }
        }
        return -1;
    }

    /** What a row of DAYS is worth: ten times how many PASS, and how many live then. */
    private int playPlan(int set, int n, int row) {
        thought.copy(now.folk);
        int laws = now.laws;
        int passed = 0;
        for (int day = 0; day < n; day++) {
            int place = Integer.bitCount(set);
            for (int i = 0; i < now.motions; i++) {
                if (!isIn(set, i)) {
                    continue;
                }
                place--;
                if (dayInRow(row, n, place) == day) {
                    if (thought.wouldPass(now.favour[i], now.quorum[i])) {
                        passed++;
                        laws |= 1 << i;
                    }
                    thought.cutAll();
                }
            }
            thought.passDay(now.coldOf(now.day + day, now.winter, laws), now.chill);
        }
        return 10 * passed + Integer.bitCount(thought.living());
    }

    /** Rows of DAYS are numbers by n, the first MOTION's digit the highest: so they go in their order. */
    private int dayInRow(int row, int n, int digit) {
        int rest = row;
        for (int i = 0; i < digit && n > 0; i++) {
            rest /= n;
        }
        return n > 0 ? rest % n : 0;
    }

    /** PEOPLE and what they have on. */
    private static final class Folk {
        int size;
        final int[] kind = new int[MOST_PEOPLE];
        final int[] mark = new int[MOST_PEOPLE];
        final int[] horn = new int[MOST_PEOPLE];
        final int[] brass = new int[MOST_PEOPLE];
        final int[] open = new int[MOST_PEOPLE];
        final int[] health = new int[MOST_PEOPLE];

        boolean has(int p) {
            return p >= 0 && p < size;
        }

        int[] rowOf(int what) {
            switch (what) {
                case 0: return horn;
                case 1: return brass;
                case 2: return open;
                default: return health;
            }
        }

        void copy(Folk other) {
            size = other.size;
            for (int p = 0; p < MOST_PEOPLE; p++) {
                kind[p] = other.kind[p];
                mark[p] = other.mark[p];
                horn[p] = other.horn[p];
                brass[p] = other.brass[p];
                open[p] = other.open[p];
                health[p] = other.health[p];
            }
        }

        boolean isWilling(int p) {
            return health[p] >= (MANNER[kind[p]] == COAT ? 30 : 1);
        }

        int cutsHorn(int p) {
            if (!isWilling(p)) {
                return 0;
            }
            int buttons = BUTTONS[kind[p]];
            if (MANNER[kind[p]] == PASSIONATE) {
                buttons -= Math.min(buttons, brass[p]);
            }
            return Math.min(buttons, horn[p]);
        }

        int cutsBrass(int p) {
            if (!isWilling(p)) {
                return 0;
            }
            int buttons = BUTTONS[kind[p]];
            if (MANNER[kind[p]] != PASSIONATE) {
                buttons -= Math.min(buttons, horn[p]);
            }
            return Math.min(buttons, brass[p]);
        }

        int counts(int p) {
            if (!isWilling(p)) {
                return 0;
            }
            if (MANNER[kind[p]] == STRING) {
                return mark[p] % 2 + (kind[p] == BEGGAR && health[p] < 50 ? 1 : 0);
            }
            return cutsHorn(p) + cutsBrass(p) * (kind[p] == SENATOR ? 5 : 3);
        }

        int chillOf(int p, int v) {
            switch (kind[p]) {
                case GREATCOAT: return v / 2;
                case SENATOR: return Math.max(0, v / 2 - mark[p]);
                case STRING: return v + 2;
                case BEGGAR: return Math.max(0, v + 2 - mark[p]);
                default: return v;
            }
        }

        int countsOf(int set) {
            int all = 0;
            for (int p = 0; p < size; p++) {
                if (isIn(set, p)) {
                    all += counts(p);
                }
            }
            return all;
        }

        int hornOf(int set) {
            int all = 0;
            for (int p = 0; p < size; p++) {
                if (isIn(set, p)) {
                    all += cutsHorn(p);
                }
            }
            return all;
        }

        int brassOf(int set) {
            int all = 0;
            for (int p = 0; p < size; p++) {
                if (isIn(set, p)) {
                    all += cutsBrass(p);
                }
            }
            return all;
        }

        boolean wouldPass(int favour, int quorum) {
            int inFavour = countsOf(favour);
            int against = countsOf(~favour);
            return inFavour > against && inFavour + against >= quorum;
        }

        void cutAll() {
            for (int p = 0; p < size; p++) {
                // Both are asked ahead of either's change, as which is cut hangs on what there is.
                int h = cutsHorn(p);
                int b = cutsBrass(p);
                horn[p] -= h;
                brass[p] -= b;
                open[p] = Math.min(NINETY_NINE, open[p] + h + b);
            }
        }

        int healthBehind(int p, int openNow, int healthNow, int cold, Text chill) {
            if (healthNow == 0) {
                return 0;
            }
            if (cold == 0) {
                return Math.min(NINETY_NINE, healthNow + 1);
            }
            return Math.max(0, healthNow - chillOf(p, chill.gives(cold, openNow, healthNow)));
        }

        void passDay(int cold, Text chill) {
            for (int p = 0; p < size; p++) {
                health[p] = healthBehind(p, open[p], health[p], cold, chill);
            }
        }

        /** Who isn't DEAD, as a set. */
        int living() {
            int set = 0;
            for (int p = 0; p < size; p++) {
                if (health[p] > 0) {
                    set |= 1 << p;
                }
            }
            return set;
        }
    }

    /** All that an IMAGE keeps. */
    private static final class World {
        final Folk folk = new Folk();
        int motions;
        final int[] quorum = new int[MOST_MOTIONS];
        final int[] favour = new int[MOST_MOTIONS];
        /** As a set. */
        int laws;
        int urnHorn;
        int urnBrass;
        int thread = 5;
        int winter = 2;
        int day;
        final Text chill = new Text(0);
        final Text cold = new Text(1);
        final int[] tape = new int[MOST_BYTES];
        int taped;
        int z = 1;
        final int[] waiting = new int[MOST_WAITING];
        int waits;

        void copy(World other) {
            folk.copy(other.folk);
            motions = other.motions;
            System.arraycopy(other.quorum, 0, quorum, 0, MOST_MOTIONS);
            System.arraycopy(other.favour, 0, favour, 0, MOST_MOTIONS);
            laws = other.laws;
            urnHorn = other.urnHorn;
            urnBrass = other.urnBrass;
            thread = other.thread;
            winter = other.winter;
            day = other.day;
            chill.take(other.chill.codes, other.chill.size);
            cold.take(other.cold.codes, other.cold.size);
            System.arraycopy(other.tape, 0, tape, 0, MOST_BYTES);
            taped = other.taped;
            z = other.z;
            System.arraycopy(other.waiting, 0, waiting, 0, MOST_WAITING);
            waits = other.waits;
        }

        boolean hasMotion(int i) {
            return i >= 0 && i < motions;
        }

        Text textOf(int use) {
            return use == 0 ? chill : cold;
        }

        int coldOf(int someDay, int someWinter, int someLaws) {
            return cold.gives(someDay, someWinter, Integer.bitCount(someLaws));
        }

        boolean holdVote(int i) {
            boolean passes = folk.wouldPass(favour[i], quorum[i]);
            if (passes) {
                laws |= 1 << i;
            }
            int everybody = (1 << MOST_PEOPLE) - 1;
            urnHorn = Math.min(MOST_IN_URN, urnHorn + folk.hornOf(everybody));
            urnBrass = Math.min(MOST_IN_URN, urnBrass + folk.brassOf(everybody));
            folk.cutAll();
            return passes;
        }

        void passDay() {
            folk.passDay(coldOf(day, winter, laws), chill);
            day++;
        }

        int draw() {
            z = z * 1103515245 + 12345;
            return z >>> 8;
        }
    }

    /**
     * A TEXT of a USE, as codes of which each works on those ahead of it: a number as it is, a NAME as
     * -1, -2, -3, an operator as its sign's number below 0.
     */
    private static final class Text {
        final int use;
        final int[] codes = new int[MOST_BYTES];
        /** 0: there is no TEXT. */
        int size;
        /** No TEXT has more operands than bytes. */
        private final int[] stack = new int[MOST_BYTES];

        Text(int use) {
            this.use = use;
        }

        void take(int[] newCodes, int newSize) {
            size = Math.min(newSize, MOST_BYTES);
            for (int i = 0; i < size && i < newCodes.length; i++) {
                codes[i] = newCodes[i];
            }
        }

        int gives(int a, int b, int c) {
            int v;
            if (size > 0) {
                v = workOut(a, b, c);
            } else {
                v = use == 0 ? a * b / 2 : b;
            }
            return Math.max(0, Math.min(NINETY_NINE, v));
        }

        private int workOut(int a, int b, int c) {
            int top = 0;
            for (int i = 0; i < size; i++) {
                int code = codes[i];
                if (code >= -3) {
                    if (top >= stack.length) {
                        return 0;
                    }
                    stack[top] = code == -1 ? a : code == -2 ? b : code == -3 ? c : code;
                    top++;
                } else if (code == -'!' && top >= 1) {
                    stack[top - 1] = stack[top - 1] == 0 ? 1 : 0;
                } else if (top >= 2) {
                    top--;
                    stack[top - 1] = apply(-code, stack[top - 1], stack[top]);
                }
            }
            return stack[0];
        }

        private static int apply(int sign, int left, int right) {
            switch (sign) {
                case '|': return (left != 0 || right != 0) ? 1 : 0;
                case '&': return (left != 0 && right != 0) ? 1 : 0;
                case '<': return left < right ? 1 : 0;
                case '=': return left == right ? 1 : 0;
                case '>': return left > right ? 1 : 0;
                case '+': return left + right;
                case '-': return left - right;
                case '*': return left * right;
                case '/': return right == 0 ? 0 : left / right;
                case '%': return right == 0 ? 0 : left % right;
                default: return 0;
            }
        }
    }

    /** Reads a TEXT by the levels of its grammar: 0 is T, 1 A, 2 B, 3 S, 4 P, 5 Q. */
    private static final class Parser {
        final int[] codes = new int[MOST_BYTES];
        int size;
        private int[] tape = new int[0];
        private int length;
        private int use;
        private int at;
        private int fault;

        /** The FAULT; -1, if there is none. */
        int read(int[] bytes, int many, int forUse) {
            tape = bytes;
            length = Math.min(many, bytes.length);
            use = forUse;
            at = 0;
            size = 0;
            fault = -1;
            readLevel(0, 0);
            if (at < length) {
                stop();
            }
            return fault;
        }

        private void readLevel(int level, int opened) {
            if (level >= 5) {
                readQ(opened);
                return;
            }
            readLevel(level + 1, opened);
            int most = level == 2 ? 1 : MOST_BYTES;
            for (int i = 0; i < most && levelOf(next()) == level; i++) {
                int sign = next();
                at++;
                readLevel(level + 1, opened);
                emit(-sign);
            }
        }

        private void readQ(int opened) {
            int sign = next();
            if (sign >= '0' && sign <= '9') {
                readNumber();
            } else if (nameOf(sign) > 0) {
                at++;
                emit(-nameOf(sign));
            } else if ((sign == '!' || sign == '(') && opened < MOST_OPEN_SIGNS) {
                at++;
                if (sign == '!') {
                    readQ(opened + 1);
                    emit(-sign);
                } else {
                    readLevel(0, opened + 1);
                    close();
                }
            } else {
                stop();
            }
        }

        private void readNumber() {
            int v = 0;
            for (int i = 0; i < 4 && next() >= '0' && next() <= '9'; i++) {
                v = 10 * v + next() - '0';
                at++;
            }
            emit(v);
        }

        private void close() {
            if (next() == ')') {
                at++;
            } else {
                stop();
            }
        }

        /** The byte that comes; -1 at the end, and behind a FAULT, so that all levels end. */
        private int next() {
            return fault < 0 && at < length ? tape[at] : -1;
        }

        private void stop() {
            if (fault < 0) {
                fault = at;
            }
        }

        private void emit(int code) {
            if (fault < 0 && size < codes.length) {
                codes[size] = code;
                size++;
            }
        }

        private int levelOf(int sign) {
            switch (sign) {
                case '|': return 0;
                case '&': return 1;
                case '<': case '=': case '>': return 2;
                case '+': case '-': return 3;
                case '*': case '/': case '%': return 4;
                default: return -1;
            }
        }

        /** 1, 2, 3 by the order of the USE's NAMES; 0: no NAME. */
        private int nameOf(int sign) {
            switch (sign) {
                case 'c': return use == 0 ? 1 : 0;
                case 'o': return use == 0 ? 2 : 0;
                case 'h': return use == 0 ? 3 : 0;
                case 'd': return use == 1 ? 1 : 0;
                case 'w': return use == 1 ? 2 : 0;
                case 'l': return use == 1 ? 3 : 0;
                default: return 0;
            }
        }
    }

    /** VOICES of one speaker at a time, and THE TRACE of the latest. */
    private static final class Voices {
        private static final int CUTS = 0;
        private static final int COUNTS = 1;
        private static final int CHILLS = 2;
        private static final int TELLS = 3;
        /** BODIES never stand so deep: the KINDS are few, and no BODY comes to itself again. */
        private static final int DEEPEST = 20;

        final int[] traces = new int[MOST_TRACED];
        int traced;
        private int kind;
        private int mark;
        private int number;

        int speak(int someKind, int m, int n, int act, int x) {
            kind = someKind;
            mark = m;
            number = n;
            traced = 0;
            return begin(kind, act, x, 0);
        }

        /** The BODY of an act, of a KIND or of the next above it that has one. */
        private int begin(int from, int act, int x, int depth) {
            int k = from;
            for (int i = 0; i < KINDS && k >= 0; i++) {
                int body = BODIES[4 * k + act];
                if (body != 0 && depth < DEEPEST) {
                    note(body);
                    return run(body, x, depth + 1);
                }
                k = ABOVE[k];
            }
            return 0;
        }

        private void note(int body) {
            if (traced < traces.length) {
                traces[traced] = body;
                traced++;
            }
        }

        private int run(int body, int x, int depth) {
            switch (body) {
                case 10: return x + number;
                case 11: return begin(kind, CUTS, x, depth) * 2;
                case 12: return x - mark;
                case 13: return begin(kind, COUNTS, x, depth) ^ begin(kind, CHILLS, x, depth);
                case 20: return -begin(ABOVE[GREATCOAT], CHILLS, x, depth);
                case 30: return begin(ABOVE[STRING], CUTS, x, depth) * 3;
                case 40: return begin(ABOVE[PASSIONATE], COUNTS, x, depth) - begin(kind, CHILLS, 1, depth);
                case 50: return begin(ABOVE[SENATOR], CHILLS, x, depth) ^ number;
                case 51: return begin(kind, COUNTS, x, depth) - begin(ABOVE[SENATOR], TELLS, x, depth);
                case 60: return begin(ABOVE[BEGGAR], TELLS, x, depth) - begin(kind, CUTS, 2, depth);
                case 70: return begin(ABOVE[RADICAL], COUNTS, x + 1, depth);
                default: return 0;
            }
        }
    }

    /** A row of numbers of 8, 16 or 32 bits; of 0 bits: missing. */
    private static final class Sheet {
        int bits;
        int size;
        final int[] numbers = new int[MOST_NUMBERS];

        void lay(int newBits, int newSize) {
            bits = newBits;
            size = Math.min(newSize, numbers.length);
            for (int i = 0; i < numbers.length; i++) {
                numbers[i] = 0;
            }
        }

        void write(int i, int v) {
            if (i >= 0 && i < size) {
                numbers[i] = bits == 8 ? v & 255 : bits == 16 ? v & 65535 : v;
            }
        }

        boolean holds(int i, int n) {
            return n >= 0 && n <= size && i >= 0 && i <= size - n;
        }
    }
}
