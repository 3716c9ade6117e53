/** The head of the Terms, and Terms 1: each sentence that names an edge, asked on both sides of it. */
final class EdgesOfPeopleTest {
    private static final Due DUE = new Due("EdgesOfPeopleTest");
    private static final String HEAD = "Terms, head";
    private static final String FIRST = "Terms 1";
    private static final int COAT = 0;
    private static final int GREATCOAT = 10;
    private static final int STRING = 20;
    private static final int PASSIONATE = 30;
    private static final int SENATOR = 40;
    private static final int BEGGAR = 50;
    private static final int RADICAL = 60;

    private EdgesOfPeopleTest() { }

    public static void main(String[] args) {
        errors();
        quotients();
        people();
        kinds();
        buttons();
        open();
        openInVotes();
        health();
        motions();
        quorum();
        favour();
        law();
        urn();
        threadAndWinter();
        day();
        willing();
        cuts();
        radicalCuts();
        counts();
        ahead();
        passes();
        chill();
        dayGoesBy();
        sew();
        DUE.end();
    }

    private static void errors() {
        DUE.about(HEAD, "LOW is -1000000000; LOW - 1 BEYOND, LOW - 2 NONE, LOW - 3 STATE, LOW - 4 FULL, LOW - 5 KIND");
        CoatVotes x = Due.people(0);
        DUE.is("BEYOND", x.person(70), -1000000001);
        DUE.is("NONE", x.trace(0), -1000000002);
        DUE.is("STATE", x.sheet(0, 8, -1), -1000000003);
        for (int i = 0; i < 20; i++) {
            x.tell(0);
        }
        DUE.is("FULL", x.tell(0), -1000000004);
        DUE.is("KIND", x.as(0, 1), -1000000005);
    }

    private static void quotients() {
        DUE.about(HEAD, "Quotients are cut.");
        CoatVotes x = Due.people(GREATCOAT);
        DUE.is("5 * 3 / 2", x.law(0, 5, 3, 0), 7);
        Due.text(x, 0, "7");
        DUE.is("half of 7", x.ofPerson(0, 9), 3);
        Due.text(x, 0, "(0-7)/2+9");
        DUE.is("-7 / 2 is -3", x.law(0, 0, 0, 0), 6);
        Due.text(x, 0, "7/(0-2)+9");
        DUE.is("7 / -2 is -3", x.law(0, 0, 0, 0), 6);
    }

    private static void people() {
        DUE.about(FIRST, "PEOPLE 0, 1, .. (at most 8)");
        CoatVotes x = new CoatVotes();
        DUE.is("none", x.count(0), 0);
        for (int i = 0; i < 8; i++) {
            DUE.is("the number of the next", x.person(i), i);
        }
        DUE.is("a ninth", x.person(0), Due.FULL);
        DUE.is("eight", x.count(0), 8);
        DUE.is("the eighth", x.ofPerson(7, 1), 7);
        DUE.is("the ninth isn't there", x.ofPerson(8, 1), Due.BEYOND);
    }

    private static void kinds() {
        DUE.about(FIRST, "of KINDS: 0 COAT; .. 6 RADICAL under PASSIONATE; with a number m (0 to 9)");
        CoatVotes x = Due.people(0, 9, 10, 19, 60, 69);
        int[][] due = {{0, 0}, {0, 9}, {1, 0}, {1, 9}, {6, 0}, {6, 9}};
        for (int p = 0; p < due.length; p++) {
            DUE.is("KIND of " + p, x.ofPerson(p, 0), due[p][0]);
            DUE.is("m of " + p, x.ofPerson(p, 1), due[p][1]);
        }
        DUE.is("below KIND 0", x.person(-1), Due.BEYOND);
        DUE.is("above KIND 6", x.person(70), Due.BEYOND);
        String[] under = {"0", "01", "02", "03", "014", "025", "036"};
        DUE.about(FIRST, "1 GREATCOAT, 2 STRING, 3 PASSIONATE under COAT; 4 SENATOR under GREATCOAT; 5 BEGGAR under STRING; 6 RADICAL under PASSIONATE");
        for (int kind = 0; kind < 7; kind++) {
            x.become(0, 10 * kind + 5);
            for (int above = 0; above < 7; above++) {
                DUE.is("KIND " + kind + " as " + above, x.as(0, above), under[kind].indexOf('0' + above) >= 0 ? 5 : Due.KIND);
            }
        }
    }

    private static void buttons() {
        DUE.about(FIRST, "HORN and BRASS buttons (0 to 9 each; 4 and 1 at first)");
        for (int km = 0; km < 70; km += 10) {
            CoatVotes x = Due.people(km);
            DUE.is("HORN at first", x.ofPerson(0, 2), 4);
            DUE.is("BRASS at first", x.ofPerson(0, 3), 1);
            for (int what = 0; what < 2; what++) {
                int first = x.ofPerson(0, 2 + what);
                DUE.is("-1", x.change(0, what, -1), Due.BEYOND);
                DUE.is("10", x.change(0, what, 10), Due.BEYOND);
                DUE.is("0", x.change(0, what, 0), first);
                DUE.is("9", x.change(0, what, 9), 0);
                DUE.is("it is 9", x.ofPerson(0, 2 + what), 9);
            }
        }
    }

    private static void open() {
        DUE.about(FIRST, "OPEN (how many were cut off; 0 at first; 99 at most)");
        CoatVotes x = Due.people(RADICAL);
        DUE.is("at first", x.ofPerson(0, 4), 0);
        DUE.is("100", x.change(0, 2, 100), Due.BEYOND);
        DUE.is("-1", x.change(0, 2, -1), Due.BEYOND);
        DUE.is("99", x.change(0, 2, 99), 0);
        DUE.is("0", x.change(0, 2, 0), 99);
        DUE.is("it is 0", x.ofPerson(0, 4), 0);
    }

    private static void openInVotes() {
        DUE.about(FIRST, "99 at most .. what they CUT is less, OPEN so much more");
        CoatVotes x = Due.people(RADICAL);
        x.motion(0, 1);
        x.change(0, 2, 97);
        x.vote(0);
        DUE.is("97 and two more", x.ofPerson(0, 4), 99);
        x.vote(0);
        DUE.is("99 and two more", x.ofPerson(0, 4), 99);
        DUE.is("the buttons are less, all the same", x.ofPerson(0, 2), 1);
        DUE.is("and lie in THE URN", x.count(5), 3);
        x.change(0, 2, 98);
        x.change(0, 0, 2);
        x.vote(0);
        DUE.is("98 and two more", x.ofPerson(0, 4), 99);
    }

    private static void health() {
        DUE.about(FIRST, "HEALTH (0 to 99; 99 at first); DEAD, if that is 0.");
        CoatVotes x = Due.people(COAT);
        DUE.is("100", x.change(0, 3, 100), Due.BEYOND);
        DUE.is("-1", x.change(0, 3, -1), Due.BEYOND);
        DUE.is("1, from 99 at first", x.change(0, 3, 1), 99);
        DUE.is("one of HEALTH 1 isn't DEAD", x.count(3), 1);
        DUE.is("one of HEALTH 1 lives", x.live(0), 1);
        DUE.is("0", x.change(0, 3, 0), 1);
        DUE.is("one of HEALTH 0 is DEAD", x.count(3), 0);
        DUE.is("one of HEALTH 0 doesn't live", x.live(0), 0);
        DUE.is("one of HEALTH 0 is DEAD now", x.freezes(0), 0);
        DUE.is("the DEAD are still there", x.count(0), 1);
        DUE.is("99", x.change(0, 3, 99), 0);
    }

    private static void motions() {
        DUE.about(FIRST, "MOTIONS 0, 1, .. (at most 6)");
        CoatVotes x = new CoatVotes();
        DUE.is("none", x.count(1), 0);
        for (int i = 0; i < 6; i++) {
            DUE.is("the number of the next", x.motion(i, 0), i);
        }
        DUE.is("a seventh", x.motion(0, 0), Due.FULL);
        DUE.is("six", x.count(1), 6);
        DUE.is("the sixth", x.ofMotion(5, 0), 5);
        DUE.is("the seventh isn't there", x.ofMotion(6, 0), Due.BEYOND);
    }

    private static void quorum() {
        DUE.about(FIRST, "QUORUM (0 to 99; ..");
        CoatVotes x = new CoatVotes();
        DUE.is("-1", x.motion(-1, 0), Due.BEYOND);
        DUE.is("100", x.motion(100, 0), Due.BEYOND);
        DUE.is("0", x.motion(0, 0), 0);
        DUE.is("99", x.motion(99, 0), 1);
        DUE.is("it is 0", x.ofMotion(0, 0), 0);
        DUE.is("it is 99", x.ofMotion(1, 0), 99);
    }

    private static void favour() {
        DUE.about(FIRST, "FOR (a set of PEOPLE; nobody, at first; all others are against)");
        CoatVotes x = Due.people(COAT, COAT, COAT, COAT, COAT, COAT, COAT, COAT);
        x.motion(0, 0);
        x.motion(0, 128);
        x.motion(0, 255);
        int[] due = {0, 8, 1, 7, 8, 0};
        for (int i = 0; i < 3; i++) {
            DUE.is("what COUNTS for " + i, x.ofMotion(i, 3), due[2 * i]);
            DUE.is("what COUNTS against " + i, x.ofMotion(i, 4), due[2 * i + 1]);
        }
        DUE.is("a ninth in the set", x.side(0, 256), Due.BEYOND);
        DUE.is("no set", x.side(0, -1), Due.BEYOND);
    }

    private static void law() {
        DUE.about(FIRST, "LAW or not (at first)");
        CoatVotes x = Due.people(COAT);
        x.motion(0, 1);
        DUE.is("not at first", x.ofMotion(0, 2), 0);
        DUE.is("none is", x.count(4), 0);
        x.vote(0);
        DUE.is("then", x.ofMotion(0, 2), 1);
    }

    private static void fill(CoatVotes x, int what, int votes) {
        for (int i = 0; i < votes; i++) {
            for (int p = 0; p < 8 && i % 4 == 0; p++) {
                x.change(p, what, 8);
            }
            x.vote(0);
        }
    }

    private static void urn() {
        DUE.about(FIRST, "THE URN: HORN, BRASS that lie in it (0 at first; 999 at most)");
        for (int what = 0; what < 2; what++) {
            CoatVotes x = Due.people(RADICAL, RADICAL, RADICAL, RADICAL, RADICAL, RADICAL, RADICAL, RADICAL);
            DUE.is("at first", x.count(5 + what), 0);
            x.motion(0, 255);
            for (int p = 0; p < 8; p++) {
                x.change(p, 1 - what, 0);
            }
            fill(x, what, 62);
            DUE.is("62 VOTES by eight who cut two each", x.count(5 + what), 992);
            for (int p = 0; p < 8; p++) {
                x.change(p, what, p < 7 ? 1 : 0);
            }
            x.vote(0);
            DUE.is("seven more", x.count(5 + what), 999);
            x.change(0, what, 1);
            x.vote(0);
            DUE.is("one more", x.count(5 + what), 999);
            DUE.is("one has no such button now", x.ofPerson(0, 2 + what), 0);
            x.sew(0, what);
            DUE.is("one less", x.count(5 + what), 998);
            x.change(1, what, 2);
            x.vote(0);
            DUE.is("three more", x.count(5 + what), 999);
            DUE.is("none of the others", x.count(6 - what), 0);
        }
    }

    private static void threadAndWinter() {
        CoatVotes x = new CoatVotes();
        DUE.about(FIRST, "THREAD (0 to 99; 5 at first)");
        DUE.is("at first", x.count(7), 5);
        DUE.is("-1", x.set(1, -1), Due.BEYOND);
        DUE.is("100", x.set(1, 100), Due.BEYOND);
        DUE.is("99", x.set(1, 99), 5);
        DUE.is("0", x.set(1, 0), 99);
        DUE.is("it is 0", x.count(7), 0);
        DUE.about(FIRST, "WINTER (0 to 9; 2 at first)");
        DUE.is("at first", x.count(8), 2);
        DUE.is("-1", x.set(0, -1), Due.BEYOND);
        DUE.is("10", x.set(0, 10), Due.BEYOND);
        DUE.is("9", x.set(0, 9), 2);
        DUE.is("0", x.set(0, 0), 9);
        DUE.is("it is 0", x.count(8), 0);
    }

    private static void day() {
        DUE.about(FIRST, "DAY (0 to 9999; 0 at first)");
        CoatVotes x = new CoatVotes();
        DUE.is("at first", x.count(2), 0);
        for (int i = 0; i < 166; i++) {
            x.days(60);
        }
        DUE.is("38 more", x.days(38), 0);
        DUE.is("it is 9998", x.count(2), 9998);
        DUE.is("two more", x.days(2), Due.STATE);
        DUE.is("it is 9998 still", x.count(2), 9998);
        DUE.is("one more", x.days(1), 0);
        DUE.is("it is 9999", x.count(2), 9999);
        DUE.is("one more", x.days(1), Due.STATE);
    }

    private static void willing(int km, int from) {
        CoatVotes x = Due.people(km);
        for (int health : new int[] {99, 31, 30, 29, 2, 1, 0}) {
            x.change(0, 3, health);
            DUE.is("whether KIND " + km / 10 + " with HEALTH " + health + " is WILLING", x.ofPerson(0, 6), health >= from ? 1 : 0);
        }
    }

    private static void willing() {
        DUE.about(FIRST, "WILLING: COAT: HEALTH is 30 or more.");
        willing(COAT, 30);
        DUE.about(FIRST, "PASSIONATE: it isn't DEAD.");
        willing(PASSIONATE, 1);
        DUE.about(FIRST, "STRING: it isn't DEAD.");
        willing(STRING, 1);
        DUE.about(FIRST, "(Others as the KIND above; nobody DEAD.)");
        willing(GREATCOAT, 30);
        willing(SENATOR, 30);
        willing(BEGGAR, 1);
        willing(RADICAL, 1);
    }

    /** Who has so much HORN and BRASS has after a VOTE that is by so much less, and THE URN has it. */
    private static void cuts(int km, int horn, int brass, int cutsHorn, int cutsBrass) {
        CoatVotes x = Due.people(km);
        x.motion(0, 1);
        Due.has(x, 0, horn, brass, 0, 99);
        String who = "KIND " + km / 10 + " with " + horn + " HORN, " + brass + " BRASS: ";
        DUE.is(who + "CUTS", x.ofPerson(0, 7), cutsHorn + cutsBrass);
        x.vote(0);
        DUE.is(who + "HORN then", x.ofPerson(0, 2), horn - cutsHorn);
        DUE.is(who + "BRASS then", x.ofPerson(0, 3), brass - cutsBrass);
        DUE.is(who + "OPEN then", x.ofPerson(0, 4), cutsHorn + cutsBrass);
        DUE.is(who + "HORN in THE URN", x.count(5), cutsHorn);
        DUE.is(who + "BRASS in THE URN", x.count(6), cutsBrass);
    }

    private static void cuts() {
        DUE.about(FIRST, "CUTS (who is WILLING): COAT: a HORN, if there is one, else a BRASS, if there is one, else nothing.");
        for (int km : new int[] {COAT, GREATCOAT, SENATOR}) {
            cuts(km, 1, 1, 1, 0);
            cuts(km, 1, 0, 1, 0);
            cuts(km, 0, 1, 0, 1);
            cuts(km, 0, 0, 0, 0);
        }
        DUE.about(FIRST, "PASSIONATE: a BRASS, if there is one, else a HORN, if there is one, else nothing.");
        cuts(PASSIONATE, 1, 1, 0, 1);
        cuts(PASSIONATE, 0, 1, 0, 1);
        cuts(PASSIONATE, 1, 0, 1, 0);
        cuts(PASSIONATE, 0, 0, 0, 0);
        DUE.about(FIRST, "STRING: nothing.");
        cuts(STRING, 9, 9, 0, 0);
        cuts(BEGGAR, 9, 9, 0, 0);
    }

    private static void radicalCuts() {
        DUE.about(FIRST, "RADICAL: as PASSIONATE, and then, as that leaves it, once more.");
        cuts(RADICAL, 2, 2, 0, 2);
        cuts(RADICAL, 0, 2, 0, 2);
        cuts(RADICAL, 2, 1, 1, 1);
        cuts(RADICAL, 1, 1, 1, 1);
        cuts(RADICAL, 2, 0, 2, 0);
        cuts(RADICAL, 1, 0, 1, 0);
        cuts(RADICAL, 0, 1, 0, 1);
        cuts(RADICAL, 0, 0, 0, 0);
        DUE.about(FIRST, "CUTS (who is WILLING)");
        for (int km = 0; km < 70; km += 10) {
            CoatVotes x = Due.people(km);
            x.motion(0, 1);
            x.change(0, 3, km == PASSIONATE || km == RADICAL ? 0 : 29);
            DUE.is("KIND " + km / 10 + " that isn't", x.ofPerson(0, 7), 0);
            x.vote(0);
            DUE.is("KIND " + km / 10 + ": OPEN then", x.ofPerson(0, 4), 0);
            DUE.is("KIND " + km / 10 + ": THE URN then", x.count(5) + x.count(6), 0);
        }
    }

    private static void counts(int km, int horn, int brass, int health, int due) {
        CoatVotes x = Due.people(km);
        Due.has(x, 0, horn, brass, 0, health);
        DUE.is("KIND " + km / 10 + ", m " + km % 10 + ", " + horn + " HORN, " + brass + " BRASS, HEALTH " + health, x.ofPerson(0, 8), due);
    }

    private static void counts() {
        DUE.about(FIRST, "COUNTS: COAT: 1 for each HORN, 3 for each BRASS that it CUTS. .. (Others as the KIND above.)");
        for (int km : new int[] {COAT, GREATCOAT}) {
            counts(km, 9, 9, 30, 1);
            counts(km, 0, 9, 30, 3);
            counts(km, 0, 0, 99, 0);
            counts(km, 9, 9, 29, 0);
        }
        counts(PASSIONATE, 9, 9, 1, 3);
        counts(PASSIONATE, 9, 0, 1, 1);
        counts(PASSIONATE, 9, 9, 0, 0);
        counts(RADICAL, 9, 9, 1, 6);
        counts(RADICAL, 9, 1, 1, 4);
        counts(RADICAL, 9, 0, 1, 2);
        counts(RADICAL, 9, 9, 0, 0);
        DUE.about(FIRST, "SENATOR: as GREATCOAT; but 5 for a BRASS.");
        counts(SENATOR, 1, 1, 30, 1);
        counts(SENATOR, 0, 1, 30, 5);
        counts(SENATOR, 0, 1, 29, 0);
        DUE.about(FIRST, "STRING: 1, if m is odd, else 0.");
        for (int m = 0; m < 10; m++) {
            counts(STRING + m, 9, 9, 1, m % 2);
            counts(STRING + m, 0, 0, 99, m % 2);
            counts(STRING + m, 9, 9, 0, 0);
        }
        DUE.about(FIRST, "BEGGAR: as STRING; and 1, if HEALTH is below 50.");
        for (int m = 0; m < 10; m++) {
            counts(BEGGAR + m, 9, 9, 50, m % 2);
            counts(BEGGAR + m, 9, 9, 49, m % 2 + 1);
            counts(BEGGAR + m, 0, 0, 1, m % 2 + 1);
            counts(BEGGAR + m, 9, 9, 0, 0);
        }
    }

    private static void ahead() {
        DUE.about(FIRST, "all who are WILLING, as of what they have ahead of it, CUT and COUNT for their side");
        CoatVotes x = Due.people(COAT, COAT, RADICAL);
        x.motion(5, 1 + 4);
        Due.has(x, 0, 1, 1, 0, 30);
        Due.has(x, 1, 9, 9, 0, 29);
        Due.has(x, 2, 1, 1, 0, 1);
        DUE.is("1 and 4 for it, as 1 HORN, and 1 HORN and 1 BRASS are there", x.vote(0), 1);
        DUE.is("now 3 for it", x.ofMotion(0, 3), 3);
        DUE.is("one who isn't WILLING cut nothing", x.ofPerson(1, 2) + x.ofPerson(1, 3) + x.ofPerson(1, 4), 18);
        DUE.is("no QUORUM", x.vote(0), 0);
        DUE.is("nobody has one", x.ofMotion(0, 3), 0);
        DUE.is("nobody cuts", x.vote(0), 0);
        DUE.is("HORN in THE URN", x.count(5), 2);
        DUE.is("BRASS in THE URN", x.count(6), 2);
        DUE.is("OPEN", x.ofPerson(0, 4) * 10 + x.ofPerson(2, 4), 22);
    }

    private static void passes(int quorum, int set, int due) {
        CoatVotes x = Due.people(COAT, COAT, COAT, COAT, COAT);
        x.motion(quorum, set);
        String what = "QUORUM " + quorum + ", FOR " + set;
        DUE.is(what + " would", x.ofMotion(0, 5), due);
        DUE.is(what, x.vote(0), due);
        DUE.is(what + ", LAW", x.count(4), due);
    }

    private static void passes() {
        DUE.about(FIRST, "It PASSES, if what COUNTS for it is more than what does against it");
        passes(0, 7, 1);
        passes(0, 3, 0);
        passes(0, 31, 1);
        passes(0, 0, 0);
        CoatVotes x = Due.people(COAT, COAT);
        x.motion(0, 1);
        DUE.is("as much for it as against it", x.vote(0), 0);
        DUE.is("no LAW", x.ofMotion(0, 2), 0);
        CoatVotes y = new CoatVotes();
        y.motion(0, 255);
        DUE.is("nothing for it, nothing against it", y.vote(0), 0);
        DUE.about(FIRST, "and both together are QUORUM or more: then it is LAW");
        passes(4, 7, 1);
        passes(5, 7, 1);
        passes(6, 7, 0);
        passes(99, 31, 0);
        x.side(0, 3);
        DUE.is("passes", x.vote(0), 1);
        x.side(0, 0);
        DUE.is("doesn't pass any more", x.vote(0), 0);
        DUE.is("LAW it is", x.ofMotion(0, 2), 1);
    }

    /** The TEXT gives v; the DAY takes just what CHILL tells. */
    private static void chill(int km, int v, int due) {
        CoatVotes x = Due.people(km);
        Due.text(x, 0, "" + v);
        String what = "KIND " + km / 10 + ", m " + km % 10 + " by " + v;
        DUE.is(what, x.ofPerson(0, 9), due);
        x.days(1);
        DUE.is(what + ", HEALTH then", x.ofPerson(0, 5), Math.max(0, 99 - due));
    }

    private static void chill() {
        DUE.about(FIRST, "CHILL (by v, what the TEXT gives for one): COAT: v. .. (Others as the KIND above.)");
        for (int km : new int[] {COAT + 9, PASSIONATE + 9, RADICAL + 9}) {
            chill(km, 0, 0);
            chill(km, 1, 1);
            chill(km, 99, 99);
        }
        DUE.about(FIRST, "GREATCOAT: half of v.");
        chill(GREATCOAT + 9, 0, 0);
        chill(GREATCOAT + 9, 1, 0);
        chill(GREATCOAT + 9, 2, 1);
        chill(GREATCOAT + 9, 99, 49);
        DUE.about(FIRST, "STRING: v, and 2.");
        chill(STRING + 9, 0, 2);
        chill(STRING + 9, 99, 101);
        DUE.about(FIRST, "SENATOR: as GREATCOAT, less m (0 at least).");
        chill(SENATOR, 7, 3);
        chill(SENATOR + 2, 7, 1);
        chill(SENATOR + 3, 7, 0);
        chill(SENATOR + 4, 7, 0);
        chill(SENATOR + 9, 0, 0);
        chill(SENATOR + 9, 99, 40);
        DUE.about(FIRST, "BEGGAR: as STRING, less m (0 at least).");
        chill(BEGGAR, 5, 7);
        chill(BEGGAR + 6, 5, 1);
        chill(BEGGAR + 7, 5, 0);
        chill(BEGGAR + 8, 5, 0);
        chill(BEGGAR + 9, 0, 0);
        chill(BEGGAR + 9, 99, 92);
    }

    private static int healthBehindADay(int health, String chill, int winter) {
        CoatVotes x = Due.people(COAT);
        x.set(0, winter);
        x.change(0, 3, health);
        Due.text(x, 0, chill);
        x.days(1);
        return x.ofPerson(0, 5);
    }

    private static void dayGoesBy() {
        DUE.about(FIRST, "of all who aren't DEAD HEALTH is less by CHILL (0 at least)");
        DUE.is("8 less 7", healthBehindADay(8, "7", 1), 1);
        DUE.is("7 less 7", healthBehindADay(7, "7", 1), 0);
        DUE.is("6 less 7", healthBehindADay(6, "7", 1), 0);
        DUE.is("1 less 0", healthBehindADay(1, "0", 1), 1);
        DUE.is("99 less 0", healthBehindADay(99, "0", 9), 99);
        DUE.is("DEAD", healthBehindADay(0, "7", 1), 0);
        DUE.about(FIRST, "or, if COLD is 0, 1 more (99 at most)");
        DUE.is("1", healthBehindADay(1, "7", 0), 2);
        DUE.is("98", healthBehindADay(98, "7", 0), 99);
        DUE.is("99", healthBehindADay(99, "7", 0), 99);
        DUE.is("DEAD", healthBehindADay(0, "7", 0), 0);
        DUE.about(FIRST, "DAY is 1 more.");
        CoatVotes x = new CoatVotes();
        x.days(1);
        DUE.is("from 0", x.count(2), 1);
        x.days(60);
        DUE.is("sixty more", x.count(2), 61);
        DUE.about(FIRST, "COLD is what the other TEXT gives");
        Due.text(x, 1, "1*(d<62)");
        x.person(COAT);
        Due.text(x, 0, "9");
        x.days(2);
        DUE.is("that of each DAY: 9 less, then 1 more", x.ofPerson(0, 5), 91);
    }

    private static void sew() {
        DUE.about(FIRST, "To SEW ..: it comes from THE URN, THREAD is 1 less, OPEN 1 less.");
        for (int brass = 0; brass < 2; brass++) {
            CoatVotes x = Due.people(COAT);
            x.motion(0, 1);
            Due.has(x, 0, 1 - brass, brass, 0, 99);
            x.vote(0);
            x.change(0, brass, 8);
            x.set(1, 1);
            DUE.is("the last thread, the last in THE URN, the last OPEN", x.sew(0, brass), 0);
            DUE.is("nine", x.ofPerson(0, 2 + brass), 9);
            DUE.is("none of the others", x.ofPerson(0, 3 - brass), 0);
            DUE.is("THE URN", x.count(5) + x.count(6), 0);
            DUE.is("THREAD", x.count(7), 0);
            DUE.is("OPEN", x.ofPerson(0, 4), 0);
        }
    }
}
