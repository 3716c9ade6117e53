/** Promises 14 to 17 and 27: votes, what is sewn on, days, days by draws. */
final class DaysTest {
    private static final Due DUE = new Due("DaysTest");

    private DaysTest() { }

    public static void main(String[] args) {
        vote();
        voteOfAll();
        mosts();
        sew();
        days();
        coldDays();
        lastDay();
        loose();
        seed();
        DUE.end();
    }

    private static void vote() {
        CoatVotes x = Due.people(0, 0, 0);
        x.motion(3, 3);
        x.motion(4, 3);
        DUE.is("14: passes", x.vote(0), 1);
        DUE.is("14: law", x.count(4), 1);
        DUE.is("14: horn in the urn", x.count(5), 3);
        DUE.is("14: no quorum", x.vote(1), 0);
        DUE.is("14: law still", x.count(4), 1);
        DUE.is("14: horn in the urn", x.count(5), 6);
        DUE.is("14: no brass", x.count(6), 0);
        x.side(0, 4);
        DUE.is("14: doesn't pass", x.vote(0), 0);
        DUE.is("14: is law all the same", x.count(4), 1);
        DUE.is("14: horn", x.ofPerson(2, 2), 1);
        DUE.is("14: open", x.ofPerson(2, 4), 3);
        x.change(0, 3, 29);
        DUE.is("14: as many for it as against it", x.vote(1), 0);
        DUE.is("14: one who isn't willing cuts nothing", x.ofPerson(0, 4), 3);
        x.side(0, 6);
        DUE.is("14: passes once more", x.vote(0), 1);
        DUE.is("14: stays law", x.count(4), 1);
        DUE.is("14: no motion", x.vote(2), Due.BEYOND);
        DUE.is("14: no motion", x.vote(-1), Due.BEYOND);
        DUE.is("14: no law of it", x.count(4), 1);
        DUE.is("14: the day stays", x.count(2), 0);
    }

    private static void voteOfAll() {
        CoatVotes x = Due.people(0, 10, 21, 30, 40, 51, 60);
        x.change(4, 0, 0);
        x.motion(0, 127);
        DUE.is("14: counted", x.ofMotion(0, 3), 1 + 1 + 1 + 3 + 5 + 1 + 4);
        DUE.is("14: all pass it", x.vote(0), 1);
        int[] horn = {3, 3, 4, 4, 0, 4, 3};
        int[] brass = {1, 1, 1, 0, 0, 1, 0};
        int[] open = {1, 1, 0, 1, 1, 0, 2};
        for (int p = 0; p < 7; p++) {
            DUE.is("14: horn of " + p, x.ofPerson(p, 2), horn[p]);
            DUE.is("14: brass of " + p, x.ofPerson(p, 3), brass[p]);
            DUE.is("14: open of " + p, x.ofPerson(p, 4), open[p]);
        }
        DUE.is("14: horn in the urn", x.count(5), 3);
        DUE.is("14: brass in the urn", x.count(6), 3);
    }

    /** OPEN ends at 99, and either heap in the urn at 999. */
    private static void mosts() {
        for (int what = 0; what < 2; what++) {
            CoatVotes x = Due.people(60, 60, 60, 60, 60, 60, 60, 60);
            x.motion(0, 255);
            for (int p = 0; p < 8; p++) {
                x.change(p, 1 - what, 0);
            }
            for (int i = 0; i < 63; i++) {
                for (int p = 0; p < 8 && i % 4 == 0; p++) {
                    x.change(p, what, 8);
                }
                x.vote(0);
                DUE.is("14: the urn holds", x.count(5 + what), Math.min(999, 16 * (i + 1)));
                DUE.is("14: open", x.ofPerson(3, 4), Math.min(99, 2 * (i + 1)));
            }
            DUE.is("14: they lose them all the same", x.ofPerson(0, 2 + what), 8 - 2 * 3);
        }
    }

    private static void sew() {
        CoatVotes x = Due.people(60, 0);
        x.motion(0, 1);
        DUE.is("15: nothing in the urn", x.sew(0, 0), Due.STATE);
        x.vote(0);
        x.vote(0);
        DUE.is("15: horn", x.sew(0, 0), 3);
        DUE.is("15: horn in the urn", x.count(5), 4);
        DUE.is("15: thread", x.count(7), 4);
        DUE.is("15: horn on the coat", x.ofPerson(0, 2), 2);
        DUE.is("15: brass", x.sew(0, 1), 2);
        DUE.is("15: brass in the urn", x.count(6), 0);
        DUE.is("15: brass on the coat", x.ofPerson(0, 3), 1);
        DUE.is("15: no brass in the urn", x.sew(0, 1), Due.STATE);
        x.change(1, 0, 9);
        DUE.is("15: more than nine", x.sew(1, 0), Due.BEYOND);
        x.change(1, 3, 0);
        x.set(1, 0);
        DUE.is("15: more than nine, ahead of STATE", x.sew(1, 0), Due.BEYOND);
        x.change(1, 0, 8);
        DUE.is("15: dead and no thread", x.sew(1, 0), Due.STATE);
        x.set(1, 1);
        DUE.is("15: dead", x.sew(1, 0), Due.STATE);
        x.change(1, 3, 1);
        x.change(1, 2, 0);
        DUE.is("15: nothing open", x.sew(1, 0), Due.STATE);
        x.change(1, 2, 1);
        x.set(1, 0);
        DUE.is("15: no thread", x.sew(1, 0), Due.STATE);
        x.set(1, 1);
        DUE.is("15: the last thread", x.sew(1, 0), 0);
        DUE.is("15: no thread left", x.count(7), 0);
        DUE.is("15: nine", x.ofPerson(1, 2), 9);
        DUE.is("15: no button", x.sew(0, 2), Due.BEYOND);
        DUE.is("15: no button", x.sew(0, -1), Due.BEYOND);
        DUE.is("15: nobody", x.sew(2, 0), Due.BEYOND);
        DUE.is("15: nobody", x.sew(-1, 0), Due.BEYOND);
        DUE.is("15: horn in the urn", x.count(5), 3);
    }

    private static void days() {
        CoatVotes x = Due.people(3, 13, 23, 33, 43, 53, 63);
        for (int p = 0; p < 7; p++) {
            x.change(p, 2, 11);
        }
        DUE.is("16: a day", x.days(1), 7);
        int[] health = {88, 94, 86, 88, 97, 89, 88};
        for (int p = 0; p < 7; p++) {
            DUE.is("16: health of kind " + p, x.ofPerson(p, 5), health[p]);
        }
        DUE.is("16: one more", x.count(2), 1);
        DUE.is("16: seven more", x.days(7), 6);
        DUE.is("16: string is dead", x.ofPerson(2, 5), 0);
        x.set(0, 0);
        DUE.is("16: calm days", x.days(60), 6);
        DUE.is("16: the dead stay so", x.ofPerson(2, 5), 0);
        DUE.is("16: 1 more a day", x.ofPerson(0, 5), 71);
        x.days(60);
        DUE.is("16: 99 at most", x.ofPerson(0, 5), 99);
        DUE.is("16: days", x.count(2), 128);
        DUE.is("16: none", x.days(0), Due.BEYOND);
        DUE.is("16: too many", x.days(61), Due.BEYOND);
        DUE.is("16: wild", x.days(Integer.MIN_VALUE), Due.BEYOND);
        DUE.is("16: days", x.count(2), 128);
    }

    private static void coldDays() {
        CoatVotes x = Due.people(0, 20);
        Due.text(x, 1, "d=1|l*3");
        Due.text(x, 0, "c*10");
        x.change(0, 3, 50);
        DUE.is("16: day 0 is calm", x.days(1), 2);
        DUE.is("16: 1 more", x.ofPerson(0, 5), 51);
        DUE.is("16: string too, by no cold", x.ofPerson(1, 5), 99);
        DUE.is("16: cold of day 1", x.count(9), 1);
        x.days(2);
        DUE.is("16: 10 less and 1 more", x.ofPerson(0, 5), 42);
        DUE.is("16: 12 less and 1 more", x.ofPerson(1, 5), 88);
        x.motion(0, 1);
        x.vote(0);
        DUE.is("16: cold by a law", x.count(9), 1);
        DUE.is("16: five cold days", x.days(5), 1);
        DUE.is("16: 0 at least", x.ofPerson(0, 5), 0);
    }

    private static void lastDay() {
        CoatVotes x = new CoatVotes();
        for (int i = 0; i < 166; i++) {
            x.days(60);
        }
        DUE.is("16: behind the last", x.days(40), Due.STATE);
        DUE.is("17: behind the last", x.loose(40), Due.STATE);
        DUE.is("17: no draw", x.count(13), 1);
        DUE.is("16: up to the last", x.days(38), 0);
        DUE.is("17: the last", x.loose(1), 0);
        DUE.is("16: no more", x.days(1), Due.STATE);
        DUE.is("17: no more", x.loose(1), Due.STATE);
        DUE.is("16: beyond ahead of that", x.days(61), Due.BEYOND);
        DUE.is("17: beyond ahead of that", x.loose(41), Due.BEYOND);
        DUE.is("16: day", x.count(2), 9999);
        x.person(0);
        Due.text(x, 1, "d>9999");
        Due.text(x, 0, "99");
        DUE.is("18: thought goes beyond", x.live(1), 1);
        DUE.is("19: thought goes beyond", x.freezes(0), 2);
    }

    /** z goes from 1 to 1103527590 (>>> 8 is 4310654), and on to 2524885223 - 2^32 (>>> 8 is 9862832). */
    private static void loose() {
        CoatVotes x = new CoatVotes();
        DUE.is("17: a day by draws", x.loose(1), 0);
        DUE.is("17: z", x.count(13), 1103527590);
        DUE.is("17: winter", x.count(8), 4);
        DUE.is("17: no motions, no draw", x.loose(1), 0);
        DUE.is("17: z", x.count(13), (int) 2524885223L);
        DUE.is("17: winter", x.count(8), 2);
        CoatVotes y = Due.people(0);
        for (int i = 0; i < 5; i++) {
            y.motion(0, 1);
        }
        DUE.is("17: with a vote", y.loose(1), 1);
        DUE.is("17: winter", y.count(8), 4);
        DUE.is("17: the vote on 9862832 % 5", y.count(4), 1 << 2);
        DUE.is("17: z", y.count(13), (int) 2524885223L);
        DUE.is("17: the vote is ahead of the day", y.ofPerson(0, 5), 97);
        CoatVotes one = Due.people(0);
        one.motion(0, 1);
        one.loose(1);
        DUE.is("17: the only motion", one.count(4), 1);
        DUE.is("17: a draw for it, too", one.count(13), (int) 2524885223L);
        DUE.is("17: none", y.loose(0), Due.BEYOND);
        DUE.is("17: too many", y.loose(41), Due.BEYOND);
        DUE.is("17: wild", y.loose(Integer.MAX_VALUE), Due.BEYOND);
        DUE.is("17: day", y.count(2), 1);
        DUE.is("17: as many as can be", y.loose(40), y.count(3));
        DUE.is("17: days", y.count(2), 41);
    }

    private static void seed() {
        CoatVotes x = new CoatVotes();
        DUE.is("27: 1 at first", x.seed(Integer.MIN_VALUE), 1);
        DUE.is("27: any number", x.seed(-5), Integer.MIN_VALUE);
        DUE.is("27: z", x.count(13), -5);
        x.seed(Due.BEYOND);
        DUE.is("27: a number like an error", x.seed(0), Due.BEYOND);
        DUE.is("27: is none", x.told(1), 0);
        x.loose(1);
        DUE.is("27: from 0", x.count(13), 12345);
        DUE.is("27: winter by 48", x.count(8), 8);
    }
}
