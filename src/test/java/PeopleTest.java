/** Promises 1 to 10: a new object, people, motions, what is set. */
final class PeopleTest {
    private static final Due DUE = new Due("PeopleTest");
    private static final int MIN = Integer.MIN_VALUE;
    private static final int MAX = Integer.MAX_VALUE;

    private PeopleTest() { }

    public static void main(String[] args) {
        newObject();
        person();
        ofPersonAtFirst();
        willing();
        cutsAndCounts();
        chill();
        change();
        become();
        as();
        motion();
        ofMotion();
        side();
        set();
        DUE.end();
    }

    private static void newObject() {
        CoatVotes x = new CoatVotes();
        int[] first = {0, 0, 0, 0, 0, 0, 0, 5, 2, 2, 0, 0, 0, 1};
        for (int what = 0; what < first.length; what++) {
            DUE.is("1: count(" + what + ")", x.count(what), first[what]);
        }
        for (int k = 1; k <= 5; k++) {
            DUE.is("1: told(" + k + ")", x.told(k), 0);
        }
        DUE.is("1: no person", x.ofPerson(0, 0), Due.BEYOND);
        DUE.is("1: no motion", x.ofMotion(0, 0), Due.BEYOND);
        DUE.is("1: no trace", x.trace(0), Due.NONE);
        DUE.is("1: no image", x.restore(), Due.NONE);
        for (int sheet = 0; sheet < 4; sheet++) {
            DUE.is("1: no sheet", x.put(sheet, 0, 0), Due.NONE);
        }
        DUE.is("1: no text of chill", x.law(0, 3, 5, 9), 7);
        DUE.is("1: no text of cold", x.law(1, 3, 5, 9), 5);
    }

    private static void person() {
        CoatVotes x = new CoatVotes();
        int[] wrong = {70, -1, 99, MIN, MAX};
        for (int km : wrong) {
            DUE.is("2: person(" + km + ")", x.person(km), Due.BEYOND);
        }
        DUE.is("2: nobody came", x.count(0), 0);
        for (int i = 0; i < 8; i++) {
            DUE.is("2: number", x.person(i == 7 ? 69 : 10 * i % 70), i);
        }
        DUE.is("2: full", x.person(0), Due.FULL);
        DUE.is("2: beyond ahead of full", x.person(70), Due.BEYOND);
        DUE.is("2: eight", x.count(0), 8);
        DUE.is("2: eight live", x.count(3), 8);
        DUE.is("2: the last's kind", x.ofPerson(7, 0), 6);
        DUE.is("2: the last's m", x.ofPerson(7, 1), 9);
    }

    private static void ofPersonAtFirst() {
        CoatVotes x = Due.people(3, 13, 23, 33, 43, 53, 63);
        int[] cuts = {1, 1, 0, 1, 1, 0, 2};
        int[] counts = {1, 1, 1, 3, 1, 1, 4};
        for (int kind = 0; kind < 7; kind++) {
            int[] due = {kind, 3, 4, 1, 0, 99, 1, cuts[kind], counts[kind]};
            for (int what = 0; what < due.length; what++) {
                DUE.is("3: ofPerson(" + kind + ", " + what + ")", x.ofPerson(kind, what), due[what]);
            }
        }
        DUE.is("3: nobody", x.ofPerson(7, 0), Due.BEYOND);
        DUE.is("3: nobody", x.ofPerson(-1, 0), Due.BEYOND);
        DUE.is("3: nothing", x.ofPerson(0, 10), Due.BEYOND);
        DUE.is("3: nothing", x.ofPerson(0, -1), Due.BEYOND);
        DUE.is("3: wild", x.ofPerson(MIN, MAX), Due.BEYOND);
        DUE.is("3: told", x.told(1), 5);
    }

    private static void willing() {
        CoatVotes x = Due.people(3, 13, 23, 33, 43, 53, 63);
        int[][] due = {{0, 0, 0, 0, 0, 0, 0}, {0, 0, 1, 1, 0, 1, 1}, {0, 0, 1, 1, 0, 1, 1}, {1, 1, 1, 1, 1, 1, 1}};
        int[] healths = {0, 1, 29, 30};
        for (int i = 0; i < healths.length; i++) {
            for (int kind = 0; kind < 7; kind++) {
                x.change(kind, 3, healths[i]);
                DUE.is("3: willing of kind " + kind + " at " + healths[i], x.ofPerson(kind, 6), due[i][kind]);
                if (due[i][kind] == 0) {
                    DUE.is("3: cuts nothing", x.ofPerson(kind, 7), 0);
                    DUE.is("3: counts nothing", x.ofPerson(kind, 8), 0);
                }
            }
        }
    }

    private static void buttons(CoatVotes x, int kind, int horn, int brass, int cuts, int counts) {
        x.change(kind, 0, horn);
        x.change(kind, 1, brass);
        String what = " of kind " + kind + " with " + horn + ", " + brass;
        DUE.is("3: cuts" + what, x.ofPerson(kind, 7), cuts);
        DUE.is("3: counts" + what, x.ofPerson(kind, 8), counts);
    }

    private static void cutsAndCounts() {
        CoatVotes x = Due.people(4, 14, 24, 34, 44, 54, 64);
        for (int kind = 0; kind < 2; kind++) {
            buttons(x, kind, 9, 9, 1, 1);
            buttons(x, kind, 0, 2, 1, 3);
            buttons(x, kind, 0, 0, 0, 0);
        }
        buttons(x, 2, 9, 9, 0, 0);
        buttons(x, 3, 9, 9, 1, 3);
        buttons(x, 3, 9, 0, 1, 1);
        buttons(x, 3, 0, 0, 0, 0);
        buttons(x, 4, 1, 9, 1, 1);
        buttons(x, 4, 0, 9, 1, 5);
        buttons(x, 5, 9, 9, 0, 0);
        buttons(x, 6, 9, 9, 2, 6);
        buttons(x, 6, 9, 1, 2, 4);
        buttons(x, 6, 9, 0, 2, 2);
        buttons(x, 6, 1, 0, 1, 1);
        buttons(x, 6, 0, 1, 1, 3);
        buttons(x, 6, 0, 0, 0, 0);
        x.change(5, 3, 50);
        DUE.is("3: a beggar of 50", x.ofPerson(5, 8), 0);
        x.change(5, 3, 49);
        DUE.is("3: a beggar of 49", x.ofPerson(5, 8), 1);
        x.become(5, 55);
        DUE.is("3: a beggar of 49, odd", x.ofPerson(5, 8), 2);
        x.become(2, 29);
        x.change(2, 3, 10);
        DUE.is("3: string, odd", x.ofPerson(2, 8), 1);
    }

    private static void chill() {
        CoatVotes x = Due.people(3, 13, 23, 33, 43, 53, 63);
        for (int p = 0; p < 7; p++) {
            x.change(p, 2, 11);
        }
        int[] due = {11, 5, 13, 11, 2, 10, 11};
        for (int p = 0; p < 7; p++) {
            DUE.is("3: chill of kind " + p, x.ofPerson(p, 9), due[p]);
        }
        x.become(4, 49);
        DUE.is("3: a senator's chill isn't below 0", x.ofPerson(4, 9), 0);
        x.set(0, 0);
        int[] calm = {0, 0, 2, 0, 0, 0, 0};
        for (int p = 0; p < 7; p++) {
            DUE.is("3: chill of kind " + p + " by no cold", x.ofPerson(p, 9), calm[p]);
        }
        Due.text(x, 0, "h-o*c");
        Due.text(x, 1, "w+2");
        x.change(0, 3, 60);
        DUE.is("3: chill by texts", x.ofPerson(0, 9), 38);
        x.change(1, 3, 0);
        DUE.is("3: chill held at 0", x.ofPerson(1, 9), 0);
    }

    private static void change() {
        CoatVotes x = Due.people(0, 10);
        int[] first = {4, 1, 0, 99};
        int[] most = {9, 9, 99, 99};
        for (int what = 0; what < 4; what++) {
            DUE.is("4: too much", x.change(1, what, most[what] + 1), Due.BEYOND);
            DUE.is("4: too little", x.change(1, what, -1), Due.BEYOND);
            DUE.is("4: what it was", x.change(1, what, most[what]), first[what]);
            DUE.is("4: what it was then", x.change(1, what, 0), most[what]);
            DUE.is("4: what it is", x.ofPerson(1, 2 + what), 0);
            DUE.is("4: another's stays", x.ofPerson(0, 2 + what), first[what]);
        }
        DUE.is("4: nobody", x.change(2, 0, 0), Due.BEYOND);
        DUE.is("4: nobody", x.change(-1, 0, 0), Due.BEYOND);
        DUE.is("4: nothing", x.change(0, 4, 0), Due.BEYOND);
        DUE.is("4: nothing", x.change(0, -1, 0), Due.BEYOND);
        DUE.is("4: wild", x.change(MAX, MIN, MAX), Due.BEYOND);
        DUE.is("4: one is dead", x.count(3), 1);
    }

    private static void become() {
        CoatVotes x = Due.people(7);
        x.change(0, 0, 2);
        x.change(0, 3, 40);
        DUE.is("5: was a coat", x.become(0, 65), 0);
        DUE.is("5: was a radical", x.become(0, 29), 6);
        DUE.is("5: kind", x.ofPerson(0, 0), 2);
        DUE.is("5: m", x.ofPerson(0, 1), 9);
        DUE.is("5: horn stays", x.ofPerson(0, 2), 2);
        DUE.is("5: health stays", x.ofPerson(0, 5), 40);
        DUE.is("5: no kind", x.become(0, 70), Due.BEYOND);
        DUE.is("5: no kind", x.become(0, -1), Due.BEYOND);
        DUE.is("5: nobody", x.become(1, 0), Due.BEYOND);
        DUE.is("5: nobody", x.become(-1, 0), Due.BEYOND);
        DUE.is("5: stays", x.ofPerson(0, 0), 2);
    }

    private static void as() {
        CoatVotes x = Due.people(1, 12, 23, 34, 45, 56, 67);
        String[] under = {"0", "01", "02", "03", "014", "025", "036"};
        for (int p = 0; p < 7; p++) {
            for (int kind = 0; kind < 7; kind++) {
                boolean is = under[p].indexOf('0' + kind) >= 0;
                DUE.is("6: as(" + p + ", " + kind + ")", x.as(p, kind), is ? p + 1 : Due.KIND);
            }
        }
        DUE.is("6: no kind", x.as(0, 7), Due.BEYOND);
        DUE.is("6: no kind", x.as(0, -1), Due.BEYOND);
        DUE.is("6: nobody", x.as(7, 0), Due.BEYOND);
        DUE.is("6: nobody, ahead of KIND", x.as(-1, 3), Due.BEYOND);
    }

    private static void motion() {
        CoatVotes x = new CoatVotes();
        DUE.is("7: quorum", x.motion(-1, 0), Due.BEYOND);
        DUE.is("7: quorum", x.motion(100, 0), Due.BEYOND);
        DUE.is("7: set", x.motion(0, -1), Due.BEYOND);
        DUE.is("7: set", x.motion(0, 256), Due.BEYOND);
        for (int i = 0; i < 6; i++) {
            DUE.is("7: number", x.motion(i == 0 ? 99 : i, i == 0 ? 255 : i), i);
        }
        DUE.is("7: full", x.motion(0, 0), Due.FULL);
        DUE.is("7: beyond ahead of full", x.motion(100, 0), Due.BEYOND);
        DUE.is("7: six", x.count(1), 6);
        DUE.is("7: no law", x.count(4), 0);
    }

    private static void ofMotion() {
        CoatVotes x = Due.people(0, 30, 60);
        x.motion(8, 6);
        x.motion(9, 6);
        x.motion(0, 1);
        int[][] due = {{8, 6, 0, 7, 1, 1}, {9, 6, 0, 7, 1, 0}, {0, 1, 0, 1, 7, 0}};
        for (int i = 0; i < 3; i++) {
            for (int what = 0; what < 6; what++) {
                DUE.is("8: ofMotion(" + i + ", " + what + ")", x.ofMotion(i, what), due[i][what]);
            }
        }
        x.become(2, 0);
        x.become(1, 0);
        x.change(2, 3, 29);
        DUE.is("8: as many for it as against", x.ofMotion(2, 5), 0);
        x.change(1, 0, 0);
        x.change(1, 1, 0);
        DUE.is("8: one alone", x.ofMotion(2, 5), 1);
        x.vote(2);
        DUE.is("8: law", x.ofMotion(2, 2), 1);
        DUE.is("8: no law", x.ofMotion(1, 2), 0);
        DUE.is("8: no motion", x.ofMotion(3, 0), Due.BEYOND);
        DUE.is("8: no motion", x.ofMotion(-1, 0), Due.BEYOND);
        DUE.is("8: nothing", x.ofMotion(0, 6), Due.BEYOND);
        DUE.is("8: nothing", x.ofMotion(0, -1), Due.BEYOND);
        x.motion(0, 255);
        DUE.is("8: nothing for it and nothing against it", new CoatVotes().motion(0, 255), 0);
        DUE.is("8: the set as it was given", x.ofMotion(3, 1), 255);
    }

    private static void side() {
        CoatVotes x = Due.people(0, 0);
        x.motion(1, 128);
        DUE.is("9: what it was", x.side(0, 255), 128);
        DUE.is("9: what it was", x.side(0, 1), 255);
        DUE.is("9: what it is", x.ofMotion(0, 1), 1);
        DUE.is("9: set", x.side(0, 256), Due.BEYOND);
        DUE.is("9: set", x.side(0, -1), Due.BEYOND);
        DUE.is("9: no motion", x.side(1, 0), Due.BEYOND);
        DUE.is("9: no motion", x.side(-1, 0), Due.BEYOND);
        DUE.is("9: stays", x.side(0, 0), 1);
        DUE.is("9: nobody for it", x.ofMotion(0, 3), 0);
    }

    private static void set() {
        CoatVotes x = new CoatVotes();
        DUE.is("10: winter", x.set(0, 9), 2);
        DUE.is("10: winter", x.set(0, 10), Due.BEYOND);
        DUE.is("10: winter", x.set(0, -1), Due.BEYOND);
        DUE.is("10: thread", x.set(1, 99), 5);
        DUE.is("10: thread", x.set(1, 100), Due.BEYOND);
        DUE.is("10: thread", x.set(1, -1), Due.BEYOND);
        DUE.is("10: nothing", x.set(2, 0), Due.BEYOND);
        DUE.is("10: nothing", x.set(-1, 0), Due.BEYOND);
        DUE.is("10: winter is", x.count(8), 9);
        DUE.is("10: thread is", x.count(7), 99);
        DUE.is("10: cold by it", x.count(9), 9);
        DUE.is("10: what it was", x.set(0, 0), 9);
        DUE.is("10: what it was", x.set(1, 0), 99);
    }
}
