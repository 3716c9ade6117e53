/** Terms 3: each sentence that names an edge of what would be, of days by draws, of VOICES. */
final class EdgesOfThoughtTest {
    private static final Due DUE = new Due("EdgesOfThoughtTest");
    private static final String THIRD = "Terms 3";
    private static final int COAT = 0;
    private static final int STRING = 20;
    private static final int PASSIONATE = 30;
    private static final int SENATOR = 40;
    private static final int BEGGAR = 50;
    private static final int RADICAL = 60;
    private static final int MIN = Due.MIN;
    private static final int MAX = Due.MAX;

    private EdgesOfThoughtTest() { }

    public static void main(String[] args) {
        beyondTheLastDay();
        live();
        freezes();
        firstDay();
        turns();
        turnsByQuorum();
        spends();
        spendsByText();
        planDays();
        planVotes();
        planLives();
        planLaws();
        planFirst();
        tailor();
        voted();
        harder();
        draws();
        drawsOfVotes();
        voices();
        trace();
        DUE.end();
    }

    /** Somebody from whom each cold DAY takes 1: WINTER is 2, OPEN 1, and there is no TEXT. */
    private static CoatVotes losesOneADay(int... healths) {
        CoatVotes x = new CoatVotes();
        for (int health : healths) {
            Due.has(x, x.person(COAT), 4, 1, 1, health);
        }
        return x;
    }

    private static void beyondTheLastDay() {
        DUE.about(THIRD, "All this is only thought, DAY beyond 9999, too.");
        CoatVotes x = Due.people(COAT);
        for (int i = 0; i < 167; i++) {
            x.days(i < 166 ? 60 : 39);
        }
        DUE.is("DAY", x.count(2), 9999);
        x.motion(1, 0);
        x.motion(1, 1);
        Due.has(x, 0, 4, 1, 4, 50);
        Due.text(x, 1, "w*(d>9999)*(d-9999<4)");
        Due.text(x, 0, "c*o*5");
        DUE.is("today: 51, then 51 less 40", x.live(2), 1);
        DUE.is("then 40 less", x.live(3), 0);
        DUE.is("the third", x.freezes(0), 3);
        DUE.is("below 30 behind two, but nobody is for it", x.firstDay(0), Due.NONE);
        DUE.is("PASSES now", x.firstDay(1), 0);
        DUE.is("one button more", x.spends(0, 2), 1);
        DUE.is("none of four", x.plan(2, 5, -2), 0);
        DUE.is("two VOTES, one on the second DAY", x.plan(2, 1, -1), 1);
        DUE.is("three are sewn on: 51 less three times 10", x.tailor(60), 3);
        DUE.is("51, less 20 and 20 by 1; less 40 and 40 by 2", x.harder(3), 2);
        x.tell(1);
        x.tell(1);
        x.tell(0);
        DUE.is("1, 1, 0 live", x.check(), 0);
        DUE.is("DAY", x.count(2), 9999);
        DUE.is("HEALTH", x.ofPerson(0, 5), 50);
        DUE.is("OPEN", x.ofPerson(0, 4), 4);
        DUE.is("HORN", x.ofPerson(0, 2), 4);
        DUE.is("LAWS", x.count(4), 0);
        DUE.is("THE URN", x.count(5), 0);
        DUE.is("WINTER", x.count(8), 2);
        DUE.is("no more DAYS to live", x.days(1), Due.STATE);
    }

    private static void live() {
        DUE.about(THIRD, "BEHIND n DAYS (0 to 60) without a VOTE: LIVE: who isn't DEAD then, as a set.");
        CoatVotes x = losesOneADay(1, 2, 59, 60, 61, 99, 0);
        DUE.is("behind none", x.live(0), 1 + 2 + 4 + 8 + 16 + 32);
        DUE.is("behind 1", x.live(1), 2 + 4 + 8 + 16 + 32);
        DUE.is("behind 2", x.live(2), 4 + 8 + 16 + 32);
        DUE.is("behind 58", x.live(58), 4 + 8 + 16 + 32);
        DUE.is("behind 59", x.live(59), 8 + 16 + 32);
        DUE.is("behind 60", x.live(60), 16 + 32);
        DUE.is("behind 61", x.live(61), Due.BEYOND);
        DUE.is("behind -1", x.live(-1), Due.BEYOND);
        CoatVotes all = losesOneADay(99, 99, 99, 99, 99, 99, 99, 99);
        DUE.is("all eight", all.live(60), 255);
        DUE.is("nobody is there", new CoatVotes().live(60), 0);
    }

    private static void freezes() {
        DUE.about(THIRD, "FREEZES: behind how many DAYS (0 to 60) one is DEAD.");
        CoatVotes x = losesOneADay(0, 1, 2, 59, 60, 61, 99);
        int[] due = {0, 1, 2, 59, 60, Due.NONE, Due.NONE};
        for (int p = 0; p < due.length; p++) {
            DUE.is("person " + p, x.freezes(p), due[p]);
        }
        Due.text(x, 0, "99");
        DUE.is("at once", x.freezes(6), 1);
        x.set(0, 0);
        DUE.is("never, by no cold", x.freezes(1), Due.NONE);
        DUE.is("the DEAD, by no cold", x.freezes(0), 0);
    }

    private static void firstDay() {
        DUE.about(THIRD, "FIRST DAY: behind how many DAYS (0 to 60) a MOTION would PASS.");
        // The coat, who is against it, isn't WILLING behind as many DAYS as its HEALTH is above 29.
        int[][] due = {{29, 0}, {30, 1}, {31, 2}, {88, 59}, {89, 60}, {90, Due.NONE}, {99, Due.NONE}};
        for (int[] d : due) {
            CoatVotes x = losesOneADay(d[0]);
            x.person(PASSIONATE);
            x.change(1, 1, 0);
            x.motion(1, 2);
            DUE.is("HEALTH " + d[0], x.firstDay(0), d[1]);
            x.side(0, 0);
            DUE.is("HEALTH " + d[0] + ", nobody for it", x.firstDay(0), Due.NONE);
        }
        CoatVotes y = Due.people(COAT);
        y.motion(1, 1);
        y.change(0, 3, 29);
        DUE.is("with no cold", y.firstDay(0), Due.NONE);
        y.set(0, 0);
        DUE.is("the COLD of today is 0", y.firstDay(0), 1);
        y.motion(0, 1);
        y.vote(1);
        DUE.is("one VOTE doesn't matter to the other", y.firstDay(0), 1);
        y.motion(4, 1);
        DUE.is("no VOTE in between", y.firstDay(2), Due.NONE);
    }

    private static int turns(int quorum, int set, int... kms) {
        CoatVotes x = Due.people(kms);
        x.motion(quorum, set);
        return x.turning(0);
    }

    private static void turns() {
        DUE.about(THIRD, "TURNS: who, on the other side, would turn whether a MOTION PASSES now, as a set.");
        DUE.is("1 to 0", turns(0, 1, COAT), 1);
        DUE.is("0 to 1", turns(0, 0, COAT), 1);
        DUE.is("1 to 1: one against it is enough", turns(0, 1, COAT, COAT), 2);
        DUE.is("2 to 1: each for it", turns(0, 3, COAT, COAT, COAT), 3);
        DUE.is("2 to 0: 1 to 1 doesn't pass", turns(0, 3, COAT, COAT), 3);
        DUE.is("3 to 0: nobody alone", turns(0, 7, COAT, COAT, COAT), 0);
        DUE.is("3 to 1: 2 to 2 doesn't pass", turns(0, 7, COAT, COAT, COAT, COAT), 7);
        DUE.is("1 to 2: 2 to 1 passes", turns(0, 1, COAT, COAT, COAT), 6);
        DUE.is("1 to 3: 2 to 2 doesn't", turns(0, 1, COAT, COAT, COAT, COAT), 0);
        DUE.is("3 to 1 by one of three", turns(0, 1, PASSIONATE, COAT), 1);
        DUE.is("who COUNTS nothing", turns(0, 1, COAT, STRING, STRING + 1), 4);
        DUE.is("all eight: 8 to 0 stays", turns(0, 255, COAT, COAT, COAT, COAT, COAT, COAT, COAT, COAT), 0);
        DUE.is("the eighth: 9 to 4", turns(0, 0, COAT, COAT, COAT, COAT, COAT, COAT, COAT, RADICAL), 0);
        DUE.is("the eighth alone: 4 to 3", turns(0, 0, COAT, COAT, COAT, STRING, STRING, STRING, STRING, RADICAL), 128);
        DUE.is("nobody is there", turns(0, 255), 0);
    }

    private static void turnsByQuorum() {
        DUE.is("QUORUM just so", turns(2, 3, COAT, COAT), 3);
        DUE.is("no QUORUM on either side", turns(3, 3, COAT, COAT), 0);
        CoatVotes x = Due.people(COAT, COAT, COAT);
        x.change(2, 3, 29);
        x.motion(0, 1);
        DUE.is("who isn't WILLING turns nothing", x.turning(0), 2);
        x.motion(0, 1);
        x.vote(0);
        x.side(0, 3);
        x.vote(0);
        DUE.is("LAW or not doesn't matter", x.turning(0), 3);
        DUE.is("FOR is as it was", x.ofMotion(0, 1), 3);
    }

    private static void spends() {
        DUE.about(THIRD, "SPENDS: the greatest number of buttons (0 to HORN and BRASS together)");
        CoatVotes x = Due.people(COAT);
        DUE.is("all, by no DAYS", x.spends(0, 0), 5);
        Due.has(x, 0, 9, 9, 0, 99);
        DUE.is("all of eighteen", x.spends(0, 0), 18);
        Due.has(x, 0, 0, 9, 0, 99);
        DUE.is("BRASS alone", x.spends(0, 0), 9);
        Due.has(x, 0, 0, 0, 0, 99);
        DUE.is("none are there", x.spends(0, 0), 0);
        DUE.about(THIRD, "by which .. one isn't DEAD behind n DAYS (0 to 60)");
        Due.has(x, 0, 4, 1, 0, 60);
        DUE.is("1 a DAY is too much for sixty", x.spends(0, 60), 0);
        DUE.is("1 a DAY for 59", x.spends(0, 59), 1);
        x.change(0, 3, 61);
        DUE.is("1 a DAY for sixty", x.spends(0, 60), 1);
        DUE.is("2 a DAY for thirty", x.spends(0, 30), 2);
        DUE.is("2 a DAY for 31", x.spends(0, 31), 1);
        DUE.is("61 DAYS", x.spends(0, 61), Due.BEYOND);
        DUE.is("-1 DAYS", x.spends(0, -1), Due.BEYOND);
        DUE.about(THIRD, "0, if by none");
        x.change(0, 3, 0);
        DUE.is("who is DEAD, by no DAYS", x.spends(0, 0), 0);
        Due.has(x, 0, 4, 1, 9, 9);
        DUE.is("one who dies anyway", x.spends(0, 60), 0);
        DUE.is("it is no ERROR", x.told(2), 0);
    }

    private static void spendsByText() {
        DUE.about(THIRD, "OPEN being so much more (99 at most)");
        CoatVotes x = Due.people(COAT);
        Due.has(x, 0, 9, 9, 90, 99);
        Due.text(x, 0, "99*(o>98)");
        DUE.is("98 are borne, 99 aren't", x.spends(0, 1), 8);
        Due.text(x, 0, "99*(o<99)");
        DUE.is("99 are borne alone: 108 are 99", x.spends(0, 1), 18);
        x.change(0, 2, 99);
        DUE.is("from 99 on", x.spends(0, 1), 18);
        x.change(0, 2, 90);
        DUE.about(THIRD, "the greatest number of buttons");
        Due.text(x, 0, "99*!(o=95)");
        DUE.is("95 are borne alone", x.spends(0, 1), 5);
        Due.text(x, 0, "99*(o>90)");
        DUE.is("none more", x.spends(0, 1), 0);
        Due.text(x, 0, "99*(o=108)");
        DUE.is("108 never are", x.spends(0, 1), 18);
    }

    private static void planDays() {
        DUE.about(THIRD, "PLAN of a set of MOTIONS (1 to 3 of them) in n DAYS (1 to 5): each MOTION gets a DAY of the next n (0: today; ..");
        CoatVotes x = Due.people(COAT);
        for (int i = 0; i < 6; i++) {
            x.motion(1, 1);
        }
        x.set(0, 0);
        x.change(0, 3, 26);
        DUE.is("WILLING behind four DAYS: in four none", x.plan(32, 4, -1), 0);
        DUE.is("in five", x.plan(32, 5, -1), 1);
        DUE.is("on the last of five", x.plan(32, 5, 0), 4);
        DUE.is("none PASSES: the first row", x.plan(32, 4, 0), 0);
        DUE.is("three of them", x.plan(1 + 8 + 32, 5, -1), 3);
        for (int place = 0; place < 3; place++) {
            DUE.is("the DAY of that at place " + place, x.plan(1 + 8 + 32, 5, place), 4);
        }
        DUE.is("two of them", x.plan(2 + 4, 5, -1), 2);
        DUE.is("the first on the last DAY", x.plan(2 + 4, 5, 0), 4);
        DUE.is("the second on the last DAY", x.plan(2 + 4, 5, 1), 4);
        DUE.is("no fourth place", x.plan(1 + 8 + 32, 5, 3), Due.BEYOND);
        DUE.is("no second of one", x.plan(1, 5, 1), Due.BEYOND);
        DUE.is("four of them", x.plan(15, 5, -1), Due.BEYOND);
        DUE.is("none of them", x.plan(0, 5, -1), Due.BEYOND);
        DUE.is("one that isn't there", x.plan(64, 5, -1), Due.BEYOND);
        DUE.is("one that isn't there, too", x.plan(65, 5, -1), Due.BEYOND);
        DUE.is("no DAYS", x.plan(1, 0, -1), Due.BEYOND);
        DUE.is("six DAYS", x.plan(1, 6, -1), Due.BEYOND);
        DUE.is("what -3", x.plan(1, 5, -3), Due.BEYOND);
        x.change(0, 3, 99);
        DUE.is("one DAY", x.plan(1, 1, -1), 1);
        DUE.is("today", x.plan(1, 1, 0), 0);
    }

    private static void planVotes() {
        DUE.about(THIRD, "one VOTE behind the other by numbers, ahead of that DAY'S going by");
        CoatVotes x = Due.people(COAT);
        Due.has(x, 0, 1, 1, 0, 30);
        x.motion(3, 1);
        x.motion(1, 1);
        x.motion(3, 1);
        x.change(0, 2, 9);
        DUE.is("1 for the first, 3 for the second: one PASSES", x.plan(1 + 2, 1, -1), 1);
        DUE.is("1 for the second, 3 for the third: both", x.plan(2 + 4, 1, -1), 2);
        DUE.is("nothing is left for the third", x.plan(7, 1, -1), 1);
        DUE.is("today one is WILLING, then one isn't", x.plan(2, 5, 0), 0);
        DUE.is("one PASSES", x.plan(2, 5, -1), 1);
        x.change(0, 3, 99);
        DUE.is("the first behind the second", x.plan(1 + 2, 2, 0), 1);
        DUE.is("the second", x.plan(1 + 2, 2, 1), 0);
        DUE.is("both PASS", x.plan(1 + 2, 2, -1), 2);
        DUE.about(THIRD, "by which most of them PASS");
        x.change(0, 1, 9);
        x.vote(1);
        DUE.is("LAW", x.count(4), 2);
        DUE.is("PASSES once more", x.plan(2, 1, -1), 1);
        x.side(1, 0);
        DUE.is("doesn't PASS once more", x.plan(2, 1, -1), 0);
    }

    private static void planLives() {
        DUE.about(THIRD, "by which most of them PASS, then most PEOPLE live behind all n DAYS");
        CoatVotes x = Due.people(COAT);
        x.motion(1, 1);
        Due.text(x, 0, "99*(o>0)");
        DUE.is("one dies by a VOTE on any DAY, it PASSES all the same", x.plan(1, 5, -1), 1);
        DUE.is("nobody lives, behind the last DAY", x.plan(1, 5, -2), 0);
        DUE.is("the first row", x.plan(1, 5, 0), 0);
        Due.text(x, 0, "50*(o>0)");
        DUE.is("50 and 50 are too much, 50 isn't", x.plan(1, 5, 0), 4);
        DUE.is("one lives", x.plan(1, 5, -2), 1);
        x.change(0, 3, 50);
        DUE.is("50 is too much", x.plan(1, 5, -2), 0);
        DUE.is("the first row", x.plan(1, 5, 0), 0);
        CoatVotes y = Due.people(COAT, COAT, COAT, COAT, COAT, COAT, COAT, COAT);
        y.motion(1, 255);
        y.motion(99, 255);
        DUE.is("all eight live", y.plan(2, 5, -2), 8);
        DUE.is("none PASSES", y.plan(2, 5, -1), 0);
        DUE.is("one PASSES", y.plan(1, 5, -1), 1);
        DUE.is("and all eight live", y.plan(1, 5, -2), 8);
        y.change(7, 3, 0);
        DUE.is("seven live", y.plan(1, 1, -2), 7);
        Due.text(y, 0, "99*(o>0)");
        DUE.is("that it PASSES is ahead of seven lives", y.plan(1, 2, -2), 0);
        DUE.is("it PASSES", y.plan(1, 2, -1), 1);
    }

    /** A MOTION that PASSES in a PLAN is LAW for the COLD of its DAYS, once. */
    private static void planLaws() {
        DUE.about("Terms 1", "then it is LAW");
        CoatVotes x = Due.people(PASSIONATE);
        x.motion(1, 1);
        x.motion(1, 1);
        x.motion(99, 1);
        Due.text(x, 0, "c");
        Due.text(x, 1, "l*9");
        Due.has(x, 0, 4, 0, 0, 10);
        DUE.is("no LAW, no COLD", x.plan(4, 2, -2), 1);
        DUE.is("9 on one DAY", x.plan(1, 2, 0), 1);
        DUE.is("9 on two is too much, none on the first", x.plan(1, 2, -2), 1);
        DUE.is("18 is too much, 9 on the first, too", x.plan(3, 2, -2), 0);
        x.vote(1);
        Due.has(x, 0, 4, 0, 0, 28);
        DUE.is("a LAW that PASSES once more makes 9 of 9", x.plan(2, 3, -2), 1);
        DUE.is("another makes 18: on the last of two, 27", x.plan(1, 2, 0), 1);
        DUE.is("one lives", x.plan(1, 2, -2), 1);
        Due.has(x, 0, 4, 0, 0, 27);
        DUE.is("27 are too much", x.plan(1, 2, -2), 0);
        DUE.is("three times 9, too: one that is LAW stays it", x.plan(2, 3, -2), 0);
        DUE.is("only thought", x.count(4), 2);
    }

    private static void planFirst() {
        DUE.about(THIRD, "then the first as a row of DAYS, by numbers of MOTIONS");
        CoatVotes x = Due.people(COAT);
        for (int i = 0; i < 4; i++) {
            x.motion(0, 1);
        }
        // One lives if just one button is off behind the first DAY.
        Due.text(x, 1, "1+d");
        Due.text(x, 0, "99*(c=1)*!(o=1)");
        DUE.is("(0, 1) is ahead of (1, 0)", x.plan(3, 2, 0), 0);
        DUE.is("(0, 1) is ahead of (1, 0)", x.plan(3, 2, 1), 1);
        int[] due = {0, 1, 1};
        for (int place = 0; place < 3; place++) {
            DUE.is("(0, 1, 1), place " + place, x.plan(2 + 4 + 8, 5, place), due[place]);
        }
        DUE.is("all PASS", x.plan(2 + 4 + 8, 5, -1), 3);
        DUE.is("one lives", x.plan(2 + 4 + 8, 5, -2), 1);
        Due.text(x, 0, "99*(c=1)*!(o=0)+99*(c=2)*!(o=2)");
        int[] later = {1, 1, 2};
        for (int place = 0; place < 3; place++) {
            DUE.is("(1, 1, 2), place " + place, x.plan(1 + 2 + 8, 3, place), later[place]);
        }
        CoatVotes nobody = new CoatVotes();
        nobody.motion(0, 0);
        nobody.motion(0, 0);
        DUE.is("all rows alike", nobody.plan(3, 5, 0) + nobody.plan(3, 5, 1), 0);
        DUE.is("nobody is there", nobody.plan(3, 5, -2), 0);
    }

    private static void tailor() {
        DUE.about(THIRD, "TAILOR: for each who lives now the fewest (0 to OPEN) .. so that one isn't DEAD behind n DAYS (0 to 60): all these together.");
        CoatVotes x = losesOneADay(61, 60, 0);
        DUE.is("0, and 1 of 1", x.tailor(60), 1);
        DUE.is("0 and 0", x.tailor(59), 0);
        DUE.is("behind none", x.tailor(0), 0);
        DUE.is("61 DAYS", x.tailor(61), Due.BEYOND);
        DUE.is("-1 DAYS", x.tailor(-1), Due.BEYOND);
        x.change(1, 3, 1);
        DUE.is("all that is OPEN", x.tailor(60), 1);
        Due.has(x, 0, 4, 1, 99, 1);
        Due.has(x, 1, 4, 1, 99, 1);
        DUE.is("99 and 99", x.tailor(60), 198);
        DUE.is("99 less 0 by none", x.tailor(0), 0);
        DUE.about(THIRD, "TAILOR: .. the fewest (0 to OPEN)");
        Due.text(x, 0, "99*!(o=97)*!(o=3)");
        DUE.is("two each, not 96", x.tailor(1), 4);
        Due.text(x, 0, "99*(o<99)");
        DUE.is("none", x.tailor(1), 0);
        Due.text(x, 0, "1");
        DUE.is("by none", x.tailor(1), Due.NONE);
        x.change(0, 3, 0);
        x.change(1, 3, 0);
        DUE.is("the DEAD need none", x.tailor(60), 0);
        DUE.is("nobody is there", new CoatVotes().tailor(60), 0);
        DUE.is("all eight", losesOneADay(60, 60, 60, 60, 60, 60, 60, 60).tailor(60), 8);
        DUE.is("the eighth alone", losesOneADay(61, 61, 61, 61, 61, 61, 61, 60).tailor(60), 1);
    }

    private static int voted(CoatVotes x, int horn, int brass, int what) {
        Due.sheet(x, 0, 8, horn, brass);
        return x.voted(0, what);
    }

    private static void voted() {
        DUE.about(THIRD, "VOTED: .. how many sets of PEOPLE there are whose CUTS now (of those WILLING), together, are just so; the least.");
        CoatVotes x = new CoatVotes();
        DUE.is("nobody is there, nothing lies there", voted(x, 0, 0, 0), 1);
        DUE.is("the set with nobody", voted(x, 0, 0, 1), 0);
        DUE.is("nobody is there, something lies there", voted(x, 1, 0, 0), 0);
        x.person(COAT);
        x.person(PASSIONATE);
        x.person(RADICAL);
        DUE.is("1 HORN, 1 BRASS", voted(x, 1, 1, 0), 2);
        DUE.is("the least: 0 and 1, not 2", voted(x, 1, 1, 1), 3);
        DUE.is("2 HORN, 2 BRASS", voted(x, 2, 2, 0), 1);
        DUE.is("all", voted(x, 2, 2, 1), 7);
        DUE.is("one more HORN", voted(x, 3, 2, 0), 0);
        DUE.is("one more BRASS", voted(x, 2, 3, 0), 0);
        DUE.is("no least", voted(x, 2, 3, 1), Due.NONE);
        DUE.is("BRASS alone", voted(x, 0, 1, 1), 2);
        x.change(2, 3, 0);
        DUE.is("the DEAD cut nothing, and are in sets", voted(x, 1, 1, 0), 2);
        x.person(STRING);
        DUE.is("string cuts nothing, too", voted(x, 0, 0, 0), 4);
        DUE.is("the least of them is nobody", voted(x, 0, 0, 1), 0);
        CoatVotes all = Due.people(RADICAL, RADICAL, RADICAL, RADICAL, RADICAL, RADICAL, RADICAL, RADICAL);
        for (int p = 0; p < 8; p++) {
            all.change(p, 1, 0);
        }
        DUE.is("16 HORN by all eight", voted(all, 16, 0, 1), 255);
        DUE.is("8 HORN by four of eight", voted(all, 8, 0, 0), 70);
        DUE.is("the least four", voted(all, 8, 0, 1), 15);
        DUE.is("an odd one", voted(all, 1, 0, 0), 0);
        DUE.about(THIRD, "a SHEET tells how many HORN and BRASS (two numbers)");
        for (int n : new int[] {0, 1, 3, 40}) {
            all.sheet(1, 32, n);
            DUE.is(n + " numbers", all.voted(1, 0), Due.NONE);
        }
        all.sheet(1, 32, 2);
        DUE.is("2 numbers", all.voted(1, 0), 1);
    }

    private static void harder() {
        DUE.about(THIRD, "HARDER: the least WINTER (0 to 9) by which, in place of its own, somebody who lives now is DEAD behind n DAYS (0 to 60).");
        CoatVotes x = losesOneADay(60);
        DUE.is("1 a DAY by 2 in sixty", x.harder(60), 2);
        DUE.is("not in 59: 1 a DAY by 3", x.harder(59), 4);
        DUE.is("4 a DAY by 9 in fifteen", x.harder(15), 8);
        DUE.is("in fourteen", x.harder(14), Due.NONE);
        DUE.is("in none", x.harder(0), Due.NONE);
        DUE.is("61 DAYS", x.harder(61), Due.BEYOND);
        DUE.is("-1 DAYS", x.harder(-1), Due.BEYOND);
        x.set(0, 9);
        DUE.is("its own doesn't matter", x.harder(60), 2);
        Due.text(x, 1, "9-w");
        DUE.is("0, that is the hardest", x.harder(15), 0);
        Due.text(x, 1, "99*(w=9)");
        DUE.is("9 alone", x.harder(2), 9);
        Due.text(x, 1, "99*(w>9)");
        DUE.is("10 isn't asked", x.harder(60), Due.NONE);
        Due.text(x, 1, "99*(w=4)");
        DUE.is("4 alone", x.harder(2), 4);
        x.change(0, 3, 1);
        DUE.is("one of HEALTH 1", x.harder(1), 4);
        x.change(0, 3, 0);
        DUE.is("the DEAD don't count", x.harder(60), Due.NONE);
        DUE.is("nobody is there", new CoatVotes().harder(60), Due.NONE);
    }

    private static int step(int z) {
        return (int) (z * 1103515245L + 12345L);
    }

    private static void draws() {
        DUE.about(THIRD, "DAYS by draws: z is told (1 at first); each makes it z * 1103515245 + 12345 (an int), and gives z >>> 8.");
        CoatVotes x = new CoatVotes();
        DUE.is("at first", x.count(13), 1);
        for (int z : new int[] {1, 0, -1, MIN, MAX, 12345, 1103527590}) {
            x.seed(z);
            x.loose(1);
            DUE.is("z from " + z, x.count(13), step(z));
            DUE.is("WINTER from " + z, x.count(8), (int) ((step(z) & 0xFFFFFFFFL) / 256 % 10));
        }
        DUE.about(THIRD, "Each day a draw: WINTER becomes its rest by 10; if there are MOTIONS, one more draw");
        x.seed(1);
        x.loose(3);
        DUE.is("three DAYS, no MOTIONS", x.count(13), step(step(step(1))));
        x.motion(0, 0);
        x.seed(1);
        x.loose(3);
        DUE.is("three DAYS, one MOTION", x.count(13), step(step(step(step(step(step(1)))))));
    }

    /** z >>> 8 of a negative z is no negative number; by six MOTIONS, the first and the last are drawn, too. */
    private static void drawsOfVotes() {
        DUE.about(THIRD, "a VOTE on that which is its rest by how many there are; then a DAY");
        boolean[] drawn = new boolean[6];
        for (int z = -40; z < 40; z++) {
            CoatVotes x = Due.people(RADICAL);
            for (int i = 0; i < 6; i++) {
                x.motion(0, 1);
            }
            x.seed(z);
            x.loose(1);
            int which = (step(step(z)) >>> 8) % 6;
            drawn[which] = true;
            DUE.is("the LAW by z from " + z, x.count(4), 1 << which);
            DUE.is("a DAY by the WINTER that was drawn, and two OPEN", x.ofPerson(0, 5), x.count(8) == 0 ? 99 : 99 - x.count(8));
        }
        for (int i = 0; i < 6; i++) {
            DUE.is("MOTION " + i + " was drawn", drawn[i] ? 1 : 0, 1);
        }
    }

    private static void voices() {
        DUE.about(THIRD, "VOICES of somebody, with a number x (ints that go round)");
        CoatVotes x = Due.people(COAT, COAT + 9, STRING, SENATOR + 9, BEGGAR + 9, RADICAL);
        DUE.is("10: MAX and 1", x.voice(1, 0, MAX), MIN);
        DUE.is("10: MIN and 1", x.voice(1, 0, MIN), MIN + 1);
        DUE.is("11: twice MAX and 1", x.voice(1, 1, MAX), 0);
        DUE.is("11: twice MAX", x.voice(0, 1, MAX), -2);
        DUE.is("12: MIN less 9", x.voice(1, 2, MIN), MAX - 8);
        DUE.is("12: MIN less 0", x.voice(0, 2, MIN), MIN);
        DUE.is("30: three times MAX and 2", x.voice(2, 0, MAX), (int) (3L * (MAX + 2L)));
        DUE.is("20, 50: the negative of MIN, with number 3", x.voice(3, 2, MIN + 9), MIN ^ 3);
        DUE.is("60", x.voice(4, 3, MAX), ((int) (6L * (MAX + 4L)) ^ (MAX - 9)) - 18);
        DUE.is("70: MAX and 1", x.voice(5, 1, MAX), 2 * (MIN + 5) - 1);
    }

    private static void trace() {
        DUE.about(THIRD, "THE TRACE: the numbers of BODIES of the latest voice(), as they began (what stands left is worked out first)");
        CoatVotes x = Due.people(SENATOR);
        DUE.is("none at first", x.trace(0), Due.NONE);
        DUE.is("none at first", x.count(12), 0);
        x.voice(0, 3, 7);
        int[] due = {51, 11, 10, 13, 11, 10, 50, 20, 12};
        DUE.is("how many", x.count(12), due.length);
        for (int i = 0; i < due.length; i++) {
            DUE.is("trace(" + i + ")", x.trace(i), due[i]);
        }
        DUE.is("one more", x.trace(due.length), Due.NONE);
        DUE.is("-1", x.trace(-1), Due.NONE);
        x.voice(0, 0, 7);
        DUE.is("of the latest alone", x.count(12), 1);
        DUE.is("of the latest alone", x.trace(0), 10);
        DUE.is("of the latest alone", x.trace(1), Due.NONE);
        x.voice(0, 4, 7);
        x.voice(1, 0, 7);
        DUE.is("an ERROR is no voice", x.trace(0), 10);
    }
}
