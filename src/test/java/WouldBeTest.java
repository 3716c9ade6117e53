/** Promises 18 to 26: what would be. */
final class WouldBeTest {
    private static final Due DUE = new Due("WouldBeTest");
    private static final int[] WRONG_DAYS = {-1, 61, Integer.MIN_VALUE, Integer.MAX_VALUE};

    private WouldBeTest() { }

    public static void main(String[] args) {
        live();
        freezes();
        firstDay();
        turning();
        spends();
        planOrder();
        planLives();
        planLaws();
        planWrong();
        tailor();
        voted();
        harder();
        onlyThought();
        DUE.end();
    }

    private static void live() {
        CoatVotes x = Due.people(0, 0, 20, 0);
        x.change(0, 2, 33);
        x.change(1, 2, 49);
        x.change(3, 3, 0);
        DUE.is("18: behind none", x.live(0), 7);
        DUE.is("18: behind 1", x.live(1), 7);
        DUE.is("18: behind 2", x.live(2), 7);
        DUE.is("18: behind 3", x.live(3), 4);
        DUE.is("18: behind 49", x.live(49), 4);
        DUE.is("18: behind 50", x.live(50), 0);
        DUE.is("18: behind 60", x.live(60), 0);
        for (int n : WRONG_DAYS) {
            DUE.is("18: live(" + n + ")", x.live(n), Due.BEYOND);
        }
        DUE.is("18: nobody", new CoatVotes().live(60), 0);
        x.set(0, 0);
        DUE.is("18: no cold", x.live(60), 7);
    }

    private static void freezes() {
        CoatVotes x = Due.people(0, 20, 0, 0, 0);
        x.change(0, 2, 33);
        x.change(2, 3, 0);
        x.change(3, 3, 60);
        x.change(3, 2, 1);
        x.change(4, 3, 61);
        x.change(4, 2, 1);
        DUE.is("19: three days", x.freezes(0), 3);
        DUE.is("19: string", x.freezes(1), 50);
        DUE.is("19: dead now", x.freezes(2), 0);
        DUE.is("19: the sixtieth day", x.freezes(3), 60);
        DUE.is("19: not by 60", x.freezes(4), Due.NONE);
        DUE.is("19: nobody", x.freezes(5), Due.BEYOND);
        DUE.is("19: nobody", x.freezes(-1), Due.BEYOND);
        DUE.is("19: told", x.told(2), 1);
    }

    private static void firstDay() {
        CoatVotes x = Due.people(0, 50);
        x.motion(1, 2);
        x.change(0, 2, 1);
        x.change(0, 3, 35);
        DUE.is("20: both turn, the beggar on day 25", x.firstDay(0), 25);
        x.change(1, 3, 60);
        DUE.is("20: both on day 6", x.firstDay(0), 6);
        x.change(0, 3, 29);
        x.change(1, 3, 49);
        DUE.is("20: today", x.firstDay(0), 0);
        x.change(1, 3, 0);
        DUE.is("20: never", x.firstDay(0), Due.NONE);
        x.become(1, 30);
        x.change(1, 1, 0);
        x.change(1, 3, 1);
        x.change(0, 3, 89);
        DUE.is("20: the sixtieth", x.firstDay(0), 60);
        x.change(0, 3, 90);
        DUE.is("20: not by 60", x.firstDay(0), Due.NONE);
        DUE.is("20: no motion", x.firstDay(1), Due.BEYOND);
        DUE.is("20: no motion", x.firstDay(-1), Due.BEYOND);
    }

    private static void turning() {
        CoatVotes x = Due.people(0, 0, 0, 30, 20);
        x.motion(6, 8 + 1);
        DUE.is("21: passes by 4 to 2: each of those for it", x.turning(0), 9);
        x.side(0, 8);
        DUE.is("21: 3 to 3: one more against it passes it", x.turning(0), 7);
        x.motion(7, 8);
        DUE.is("21: no quorum", x.turning(1), 0);
        x.change(0, 3, 29);
        x.side(0, 2 + 4);
        DUE.is("21: no quorum without one", x.turning(0), 0);
        x.motion(0, 2 + 4);
        DUE.is("21: who isn't willing doesn't turn it", x.turning(2), 8);
        x.motion(0, 240);
        x.become(4, 21);
        x.change(3, 3, 0);
        DUE.is("21: 1 to 2: each of those against it", x.turning(3), 6);
        x.change(1, 3, 0);
        x.change(2, 3, 0);
        DUE.is("21: string alone", x.turning(3), 16);
        DUE.is("21: no motion", x.turning(4), Due.BEYOND);
        DUE.is("21: no motion", x.turning(-1), Due.BEYOND);
        CoatVotes y = new CoatVotes();
        y.motion(0, 255);
        DUE.is("21: nobody", y.turning(0), 0);
    }

    private static void spends() {
        CoatVotes x = Due.people(0);
        x.change(0, 2, 10);
        x.change(0, 3, 50);
        DUE.is("22: 12 a day for four days", x.spends(0, 4), 2);
        DUE.is("22: all", x.spends(0, 3), 5);
        DUE.is("22: none", x.spends(0, 5), 0);
        DUE.is("22: behind none, all", x.spends(0, 0), 5);
        DUE.is("22: by none", x.spends(0, 60), 0);
        for (int n : WRONG_DAYS) {
            DUE.is("22: spends(0, " + n + ")", x.spends(0, n), Due.BEYOND);
        }
        DUE.is("22: nobody", x.spends(1, 0), Due.BEYOND);
        DUE.is("22: nobody", x.spends(-1, 0), Due.BEYOND);
        x.change(0, 0, 0);
        DUE.is("22: brass alone", x.spends(0, 3), 1);
        x.change(0, 0, 4);
        x.change(0, 3, 99);
        Due.text(x, 0, "20-o");
        DUE.is("22: the more the better", x.spends(0, 17), 5);
        Due.text(x, 0, "99*(o=15)");
        DUE.is("22: not five", x.spends(0, 2), 4);
        Due.text(x, 0, "99*(o<15)");
        DUE.is("22: five alone", x.spends(0, 2), 5);
        x.change(0, 2, 98);
        Due.text(x, 0, "99*(o>99)");
        DUE.is("22: 99 at most", x.spends(0, 2), 5);
        Due.text(x, 0, "99*(o=99)");
        DUE.is("22: held at 99", x.spends(0, 2), 0);
        x.change(0, 3, 0);
        DUE.is("22: dead", x.spends(0, 0), 0);
    }

    private static void planOrder() {
        CoatVotes x = Due.people(0);
        x.change(0, 0, 1);
        x.motion(3, 1);
        x.motion(1, 1);
        x.motion(50, 1);
        DUE.is("23: both", x.plan(3, 2, -1), 2);
        DUE.is("23: the horn is cut for the second", x.plan(3, 2, 0), 1);
        DUE.is("23: today", x.plan(3, 2, 1), 0);
        DUE.is("23: one lives", x.plan(3, 2, -2), 1);
        DUE.is("23: in one day one of them", x.plan(3, 1, -1), 1);
        DUE.is("23: the first of five days", x.plan(3, 5, 0), 1);
        DUE.is("23: one alone, none passes", x.plan(4, 5, 0), 0);
        DUE.is("23: one alone", x.plan(4, 5, -1), 0);
        DUE.is("23: places by numbers", x.plan(6, 5, 0), 0);
        DUE.is("23: the third ahead of the second brings nothing", x.plan(6, 5, 1), 0);
        DUE.is("23: three", x.plan(7, 3, -1), 2);
        DUE.is("23: three, the first behind the second", x.plan(7, 3, 0), 1);
        DUE.is("23: three, the second", x.plan(7, 3, 1), 0);
        DUE.is("23: three, the third behind both", x.plan(7, 3, 2), 1);
        x.side(2, 1);
        CoatVotes y = Due.people(0);
        y.change(0, 0, 2);
        y.motion(3, 1);
        y.motion(1, 1);
        y.motion(1, 1);
        DUE.is("23: all three", y.plan(7, 2, -1), 3);
        DUE.is("23: the brass for the first", y.plan(7, 2, 0), 1);
        DUE.is("23: the second", y.plan(7, 2, 1), 0);
        DUE.is("23: the third", y.plan(7, 2, 2), 0);
        y.vote(1);
        DUE.is("23: one that is law passes too", y.plan(2, 1, -1), 1);
    }

    private static void planLives() {
        CoatVotes x = Due.people(30);
        x.motion(1, 1);
        x.change(0, 2, 9);
        x.change(0, 3, 30);
        DUE.is("23: one dies by a vote today", x.plan(1, 3, 0), 1);
        DUE.is("23: one lives then", x.plan(1, 3, -2), 1);
        DUE.is("23: it passes", x.plan(1, 3, -1), 1);
        DUE.is("23: two days, today", x.plan(1, 2, 0), 0);
        DUE.is("23: five days, nobody lives", x.plan(1, 5, -2), 0);
        DUE.is("23: five days, today", x.plan(1, 5, 0), 0);
        CoatVotes y = Due.people(0, 30);
        y.motion(4, 2);
        y.change(1, 2, 9);
        y.change(1, 3, 30);
        y.change(0, 3, 31);
        y.change(0, 2, 2);
        DUE.is("23: that most pass is ahead of who lives", y.plan(1, 3, 0), 0);
        DUE.is("23: one lives then", y.plan(1, 3, -2), 1);
    }

    private static void planLaws() {
        CoatVotes x = Due.people(30);
        Due.text(x, 1, "l*9");
        x.motion(1, 1);
        x.change(0, 2, 1);
        x.change(0, 3, 9);
        DUE.is("23: a law of the plan makes it cold", x.plan(1, 2, 0), 1);
        DUE.is("23: one lives", x.plan(1, 2, -2), 1);
        x.change(0, 3, 8);
        DUE.is("23: nobody lives", x.plan(1, 2, -2), 0);
        DUE.is("23: the first", x.plan(1, 2, 0), 0);
        DUE.is("23: no law yet", x.count(4), 0);
        x.vote(0);
        x.change(0, 1, 1);
        x.change(0, 2, 1);
        x.change(0, 3, 13);
        DUE.is("23: what is law stays law: 9 and 9, or 4 and 9 are too much", x.plan(1, 2, -2), 0);
        DUE.is("23: so it is today", x.plan(1, 2, 0), 0);
        x.change(0, 3, 14);
        DUE.is("23: one lives by 4 and 9", x.plan(1, 2, -2), 1);
        DUE.is("23: so it is the second day", x.plan(1, 2, 0), 1);
        CoatVotes y = Due.people(30);
        y.motion(1, 1);
        y.days(7);
        Due.text(y, 1, "9*(d=8)");
        y.change(0, 2, 1);
        y.change(0, 3, 8);
        DUE.is("23: by the cold of each day", y.plan(1, 3, 0), 2);
        DUE.is("23: one lives", y.plan(1, 3, -2), 1);
    }

    private static void planWrong() {
        CoatVotes x = Due.people(0);
        DUE.is("23: no motions", x.plan(1, 1, 0), Due.BEYOND);
        for (int i = 0; i < 4; i++) {
            x.motion(1, 1);
        }
        int[][] wrong = {{0, 1, 0}, {15, 1, 0}, {16, 1, 0}, {17, 1, 0}, {-1, 1, 0}, {Integer.MIN_VALUE, 1, 0}, {1, 0, 0}, {1, 6, 0},
            {1, -1, 0}, {1, 1, -3}, {1, 1, 1}, {3, 1, 2}, {7, 1, 3}, {Integer.MAX_VALUE, Integer.MAX_VALUE, Integer.MAX_VALUE}};
        for (int[] w : wrong) {
            DUE.is("23: plan(" + w[0] + ", " + w[1] + ", " + w[2] + ")", x.plan(w[0], w[1], w[2]), Due.BEYOND);
        }
        DUE.is("23: told", x.told(1), wrong.length + 1);
        DUE.is("23: the greatest", x.plan(14, 5, 2), 0);
    }

    private static void tailor() {
        CoatVotes x = Due.people(0, 10, 20);
        x.change(0, 2, 20);
        x.change(1, 2, 40);
        DUE.is("24: one each", x.tailor(5), 2);
        DUE.is("24: none needed", x.tailor(4), 0);
        DUE.is("24: behind none", x.tailor(0), 0);
        DUE.is("24: string freezes with a whole coat", x.tailor(60), Due.NONE);
        x.change(2, 3, 0);
        DUE.is("24: 19 and 37", x.tailor(60), 19 + 37);
        for (int n : WRONG_DAYS) {
            DUE.is("24: tailor(" + n + ")", x.tailor(n), Due.BEYOND);
        }
        DUE.is("24: nobody", new CoatVotes().tailor(60), 0);
        CoatVotes y = Due.people(0);
        y.change(0, 2, 5);
        Due.text(y, 0, "9-o");
        DUE.is("24: less is worse", y.tailor(25), Due.NONE);
        DUE.is("24: nothing needed", y.tailor(20), 0);
        Due.text(y, 0, "99*!(o=1)");
        DUE.is("24: one is left open", y.tailor(9), 4);
        Due.text(y, 0, "99*(o>0)");
        DUE.is("24: all of them", y.tailor(9), 5);
        y.change(0, 3, 1);
        DUE.is("24: for one of health 1, too", y.tailor(9), 5);
    }

    private static void voted() {
        CoatVotes x = Due.people(0, 30, 60, 40);
        Due.sheet(x, 0, 8, 1, 1);
        DUE.is("25: how many", x.voted(0, 0), 3);
        DUE.is("25: the least", x.voted(0, 1), 3);
        Due.sheet(x, 0, 32, 2, 1);
        DUE.is("25: how many", x.voted(0, 0), 3);
        DUE.is("25: the least", x.voted(0, 1), 5);
        Due.sheet(x, 0, 16, 0, 0);
        DUE.is("25: nobody", x.voted(0, 0), 1);
        DUE.is("25: nobody", x.voted(0, 1), 0);
        x.change(0, 3, 29);
        x.become(1, 20);
        DUE.is("25: sets with those who cut nothing, too", x.voted(0, 0), 4);
        Due.sheet(x, 0, 16, 9, 0);
        DUE.is("25: none", x.voted(0, 0), 0);
        Due.sheet(x, 3, 16, 0, 0);
        DUE.is("25: the least of the four", x.voted(3, 1), 0);
        DUE.is("25: none, no least", x.voted(0, 1), Due.NONE);
        Due.sheet(x, 1, 8, 0, 0, 0);
        DUE.is("25: three numbers", x.voted(1, 0), Due.NONE);
        Due.sheet(x, 1, 8, 0);
        DUE.is("25: one number", x.voted(1, 1), Due.NONE);
        DUE.is("25: missing", x.voted(2, 0), Due.NONE);
        DUE.is("25: no sheet", x.voted(4, 0), Due.BEYOND);
        DUE.is("25: no sheet", x.voted(-1, 0), Due.BEYOND);
        DUE.is("25: nothing", x.voted(0, 2), Due.BEYOND);
        DUE.is("25: nothing, ahead of missing", x.voted(2, -1), Due.BEYOND);
        CoatVotes y = Due.people(60, 60, 60, 60, 60, 60, 60, 60);
        Due.sheet(y, 3, 32, 8, 8);
        DUE.is("25: all eight", y.voted(3, 0), 1);
        DUE.is("25: all eight", y.voted(3, 1), 255);
    }

    private static void harder() {
        CoatVotes x = Due.people(0);
        x.change(0, 2, 10);
        DUE.is("26: by 4", x.harder(5), 4);
        DUE.is("26: by 7", x.harder(3), 7);
        DUE.is("26: by 1", x.harder(60), 1);
        DUE.is("26: by none", x.harder(2), Due.NONE);
        DUE.is("26: behind none", x.harder(0), Due.NONE);
        DUE.is("26: nobody", new CoatVotes().harder(60), Due.NONE);
        for (int n : WRONG_DAYS) {
            DUE.is("26: harder(" + n + ")", x.harder(n), Due.BEYOND);
        }
        x.person(0);
        x.change(1, 3, 0);
        DUE.is("26: who is dead now doesn't matter", x.harder(2), Due.NONE);
        x.change(1, 3, 1);
        x.change(1, 2, 1);
        DUE.is("26: one of health 1", x.harder(1), 2);
        x.change(1, 3, 0);
        Due.text(x, 1, "9-w");
        DUE.is("26: milder by more", x.harder(5), 0);
        Due.text(x, 1, "9*(w=9)");
        x.set(0, 9);
        DUE.is("26: its own, too", x.harder(5), 9);
        DUE.is("26: winter stays", x.count(8), 9);
    }

    /** None of these calls changes what the others tell. */
    private static void onlyThought() {
        CoatVotes x = Due.people(1, 12, 23, 34, 45, 56, 67);
        x.motion(1, 85);
        x.motion(2, 42);
        Due.sheet(x, 0, 8, 1, 1);
        int[] ahead = all(x);
        x.live(60);
        x.freezes(2);
        x.firstDay(1);
        x.turning(0);
        x.spends(3, 20);
        x.plan(3, 5, -1);
        x.tailor(30);
        x.voted(0, 1);
        x.harder(30);
        int[] behind = all(x);
        for (int i = 0; i < ahead.length; i++) {
            DUE.is("18 to 26: only thought, " + i, behind[i], ahead[i]);
        }
    }

    private static int[] all(CoatVotes x) {
        int[] all = new int[14 + 70 + 12];
        for (int i = 0; i < 14; i++) {
            all[i] = x.count(i);
        }
        for (int i = 0; i < 70; i++) {
            all[14 + i] = x.ofPerson(i / 10, i % 10);
        }
        for (int i = 0; i < 12; i++) {
            all[84 + i] = x.ofMotion(i / 6, i % 6);
        }
        return all;
    }
}
