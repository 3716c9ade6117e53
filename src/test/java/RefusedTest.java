import java.util.Arrays;

/**
 * The head of the Terms: each act tells its ERRORS in the order in which they are asked, and one that answers an ERROR
 * changes nothing but what told() tells. Each refused call is made on one of two objects that came about alike; behind it
 * both must tell the same of everything.
 */
final class RefusedTest {
    private static final Due DUE = new Due("RefusedTest");
    private static final String[] NAMES = {"", "BEYOND", "NONE", "STATE", "FULL", "KIND"};

    /** An object, the calls on it, and the ERROR that is due; the promise's number ahead. */
    private static final String[] REFUSED = {
        "2 new BEYOND: person(-1) person(70) person(MIN) person(MAX)",
        "2 full FULL: person(0) person(69)",
        "2 full BEYOND: person(-1) person(70)",
        "3 new BEYOND: ofPerson(0, 0) ofPerson(0, 6) ofPerson(0, 9)",
        "3 some BEYOND: ofPerson(-1, 0) ofPerson(4, 0) ofPerson(0, -1) ofPerson(0, 10) ofPerson(MIN, MIN) ofPerson(MAX, MAX)",
        "3 full BEYOND: ofPerson(8, 0)",
        "4 some BEYOND: change(-1, 0, 0) change(4, 0, 0) change(0, -1, 0) change(0, 4, 0) change(MIN, 0, 0) change(0, MAX, 0)",
        "4 some BEYOND: change(0, 0, -1) change(0, 0, 10) change(0, 1, -1) change(0, 1, 10) change(0, 0, MIN) change(0, 1, MAX)",
        "4 some BEYOND: change(0, 2, -1) change(0, 2, 100) change(0, 3, -1) change(0, 3, 100) change(0, 2, MAX) change(0, 3, MIN)",
        "4 new BEYOND: change(0, 0, 0)",
        "5 some BEYOND: become(-1, 0) become(4, 0) become(0, -1) become(0, 70) become(MIN, 0) become(0, MAX) become(MAX, MIN)",
        "6 some BEYOND: as(-1, 0) as(4, 0) as(0, -1) as(0, 7) as(MIN, 0) as(0, MAX) as(4, 3) as(-1, 3)",
        "6 some KIND: as(0, 1) as(0, 6) as(1, 1) as(2, 2) as(3, 5)",
        "7 new BEYOND: motion(-1, 0) motion(100, 0) motion(0, -1) motion(0, 256) motion(MIN, 0) motion(0, MAX)",
        "7 full BEYOND: motion(-1, 0) motion(100, 0) motion(0, -1) motion(0, 256)",
        "7 full FULL: motion(0, 0) motion(99, 255)",
        "8 new BEYOND: ofMotion(0, 0) ofMotion(0, 5)",
        "8 some BEYOND: ofMotion(-1, 0) ofMotion(3, 0) ofMotion(0, -1) ofMotion(0, 6) ofMotion(MIN, 0) ofMotion(0, MAX)",
        "9 some BEYOND: side(-1, 0) side(3, 0) side(0, -1) side(0, 256) side(MAX, 0) side(0, MIN)",
        "10 some BEYOND: set(-1, 0) set(2, 0) set(0, -1) set(0, 10) set(1, -1) set(1, 100) set(MIN, 5) set(1, MAX) set(0, MIN)",
        "11 some BEYOND: feed(49, 0) feed(49, -1) feed(49, 9) feed(49, MIN) feed(49, MAX)",
        "11 full BEYOND: feed(49, 0) feed(49, 9)",
        "11 some FULL: feed(3544385890265608241, 8)",
        "11 full FULL: feed(49, 1) feed(49, 8)",
        "12 some BEYOND: text(-1) text(2) text(MIN) text(MAX)",
        "12 full BEYOND: text(2)",
        "13 some BEYOND: law(-1, 0, 0, 0) law(2, 0, 0, 0) law(MAX, 1, 2, 3) law(MIN, 1, 2, 3)",
        "14 new BEYOND: vote(0)",
        "14 some BEYOND: vote(-1) vote(3) vote(MIN) vote(MAX)",
        "14 full BEYOND: vote(6)",
        "15 some BEYOND: sew(-1, 0) sew(4, 0) sew(0, -1) sew(0, 2) sew(MIN, 0) sew(0, MAX) sew(1, 0) sew(3, 1)",
        "15 some STATE: sew(0, 1) sew(2, 0) sew(3, 0)",
        "15 full BEYOND: sew(0, 0)",
        "15 full STATE: sew(1, 0) sew(2, 0) sew(1, 1)",
        "16 some BEYOND: days(0) days(-1) days(61) days(MIN) days(MAX)",
        "16 last BEYOND: days(0) days(61)",
        "16 last STATE: days(4) days(60)",
        "17 some BEYOND: loose(0) loose(-1) loose(41) loose(MIN) loose(MAX)",
        "17 last BEYOND: loose(0) loose(41)",
        "17 last STATE: loose(4) loose(40)",
        "18 some BEYOND: live(-1) live(61) live(MIN) live(MAX)",
        "19 some BEYOND: freezes(-1) freezes(4) freezes(MIN) freezes(MAX)",
        "19 new BEYOND: freezes(0)",
        "19 full NONE: freezes(1)",
        "20 some BEYOND: firstDay(-1) firstDay(3) firstDay(MIN) firstDay(MAX)",
        "20 full NONE: firstDay(5)",
        "21 some BEYOND: turning(-1) turning(3) turning(MIN) turning(MAX)",
        "22 some BEYOND: spends(-1, 0) spends(4, 0) spends(0, -1) spends(0, 61) spends(MIN, 0) spends(0, MAX) spends(MAX, MIN)",
        "23 new BEYOND: plan(1, 1, 0) plan(0, 1, 0)",
        "23 some BEYOND: plan(0, 1, -1) plan(8, 1, -1) plan(9, 1, -1) plan(-1, 1, -1) plan(MIN, 1, -1) plan(MAX, 1, -1)",
        "23 some BEYOND: plan(1, 0, -1) plan(1, 6, -1) plan(1, MIN, -1) plan(1, MAX, -1) plan(1, 1, -3) plan(1, 1, 1) plan(7, 1, 3)",
        "23 some BEYOND: plan(3, 5, 2) plan(3, 5, MIN) plan(3, 5, MAX)",
        "23 full BEYOND: plan(15, 1, -1) plan(60, 5, -2) plan(63, 1, 0) plan(64, 1, 0)",
        "24 some BEYOND: tailor(-1) tailor(61) tailor(MIN) tailor(MAX)",
        "24 some NONE: tailor(60)",
        "25 some BEYOND: voted(-1, 0) voted(4, 0) voted(0, -1) voted(0, 2) voted(MIN, 0) voted(0, MAX) voted(3, 2) voted(1, -1)",
        "25 some NONE: voted(3, 0) voted(3, 1) voted(1, 0) voted(1, 1) voted(0, 1)",
        "26 some BEYOND: harder(-1) harder(61) harder(MIN) harder(MAX)",
        "26 full NONE: harder(0)",
        "28 new BEYOND: voice(0, 0, 0)",
        "28 some BEYOND: voice(-1, 0, 0) voice(4, 0, 0) voice(0, -1, 0) voice(0, 4, 0) voice(MIN, 0, 0) voice(0, MAX, 0)",
        "29 new NONE: trace(0) trace(-1) trace(39)",
        "29 some NONE: trace(-1) trace(7) trace(39) trace(40) trace(MIN) trace(MAX)",
        "30 some BEYOND: sheet(-1, 8, 1) sheet(4, 8, 1) sheet(4, 8, -1) sheet(0, 1, 1) sheet(0, -8, 1) sheet(0, 24, -1) sheet(0, 64, 1)",
        "30 some BEYOND: sheet(0, 8, 41) sheet(0, 16, MAX) sheet(4, 0, 1) sheet(-1, 0, 0) sheet(3, 32, 41) sheet(MIN, 8, 1) sheet(0, MAX, -1)",
        "30 some STATE: sheet(0, 8, -1) sheet(1, 16, -1) sheet(3, 32, -1) sheet(0, 8, MIN)",
        "31 some BEYOND: put(-1, 0, 7) put(4, 0, 7) put(MIN, 0, 7) put(MAX, 0, 7) put(4, -1, 7)",
        "31 some NONE: put(3, 0, 7) put(3, -1, 7) put(3, 40, 7)",
        "31 some BEYOND: put(0, -1, 7) put(0, 2, 7) put(1, 3, 7) put(2, 40, 7) put(0, MIN, 7) put(0, MAX, 7)",
        "32 some BEYOND: move(-1, 0, 0, 0, 1) move(4, 0, 0, 0, 1) move(0, 0, -1, 0, 1) move(0, 0, 4, 0, 1) move(3, 0, 4, 0, 1) move(4, 0, 3, 0, 1)",
        "32 some NONE: move(3, 0, 0, 0, 1) move(0, 0, 3, 0, 1) move(3, 0, 3, 0, 1) move(3, -1, 0, 0, 1) move(0, 0, 3, 0, -1)",
        "32 some KIND: move(0, 0, 1, 0, 1) move(1, 0, 0, 0, 1) move(1, 0, 2, 0, 1) move(2, -1, 0, 0, 1) move(0, 0, 2, 0, -1) move(0, 9, 1, 9, 9)",
        "32 some BEYOND: move(0, 0, 0, 0, -1) move(0, -1, 0, 0, 1) move(0, 0, 0, -1, 1) move(0, 1, 0, 0, 2) move(0, 0, 0, 1, 2) move(0, 0, 0, 0, 3)",
        "32 some BEYOND: move(0, 2, 0, 0, 1) move(0, 0, 0, 2, 1) move(0, MAX, 0, 0, 1) move(0, 0, 0, MAX, 1) move(0, 1, 0, 0, MAX) move(0, MIN, 0, 0, MIN)",
        "33 some BEYOND: healths(-1) healths(4) healths(MIN) healths(MAX)",
        "33 some NONE: healths(3)",
        "34 some BEYOND: judge(-1) judge(4) judge(MIN) judge(MAX)",
        "34 some NONE: judge(3)",
        "36 new NONE: restore()",
        "36 last NONE: restore()",
        "37 full FULL: tell(0) tell(MIN)",
        "39 some BEYOND: count(-1) count(14) count(MIN) count(MAX)",
        "40 some BEYOND: told(0) told(6) told(-1) told(MIN) told(MAX)"
    };

    private RefusedTest() { }

    public static void main(String[] args) throws ReflectiveOperationException {
        int refused = 0;
        for (String row : REFUSED) {
            String[] head = row.substring(0, row.indexOf(':')).split(" ");
            for (String call : row.substring(row.indexOf(':') + 2).split("(?<=\\)) ")) {
                refuse(Integer.parseInt(head[0]), head[1], Arrays.asList(NAMES).indexOf(head[2]), call);
                refused++;
            }
        }
        DUE.about("RefusedTest", "all of the table");
        DUE.is("how many", refused > 300 ? 1 : 0, 1);
        DUE.end();
    }

    private static void refuse(int promise, String which, int error, String call) throws ReflectiveOperationException {
        CoatVotes x = make(which);
        CoatVotes twin = make(which);
        DUE.about("Promise " + promise, NAMES[error]);
        DUE.is(call + " of the " + which, Due.call(x, call), Due.LOW - error);
        DUE.about("Terms, head", "one that answers an ERROR changes nothing but what told() tells");
        for (int k = 1; k <= 5; k++) {
            DUE.is("told(" + k + ") behind " + call + " of the " + which, x.told(k), twin.told(k) + (k == error ? 1 : 0));
        }
        DUE.is("what is otherwise behind " + call + " of the " + which, Arrays.equals(all(x), all(twin)) ? 1 : 0, 1);
    }

    private static CoatVotes make(String which) {
        switch (which) {
            case "some": return some();
            case "full": return full();
            case "last": return last();
            default: return new CoatVotes();
        }
    }

    /** Something of everything; SHEET 3 is missing. */
    private static CoatVotes some() {
        CoatVotes x = Due.people(3, 57, 64, 12);
        x.motion(1, 5);
        x.motion(2, 15);
        x.motion(9, 0);
        Due.text(x, 1, "w+l");
        Due.text(x, 0, "c*o+1");
        x.set(0, 3);
        x.vote(1);
        x.days(2);
        Due.has(x, 0, 2, 0, 3, 60);
        Due.has(x, 1, 9, 1, 2, 40);
        Due.has(x, 2, 8, 5, 4, 0);
        Due.has(x, 3, 1, 9, 0, 99);
        x.sew(0, 1);
        Due.sheet(x, 0, 8, 1, 9);
        Due.sheet(x, 1, 16, 3, 2, 1);
        Due.sheet(x, 2, 32, 4, 5, 6, 7);
        x.sheet(2, 32, 40);
        x.put(2, 0, 8);
        x.voice(2, 3, 5);
        Due.feed(x, "d*2+1");
        Due.feed(x, "+1+1+1+1+1+1+1+1+1+1+1+1+1+1+1+1+1+1+1+1");
        x.tell(3);
        x.tell(3);
        x.seed(77);
        x.trace(-1);
        x.image();
        x.change(0, 3, 55);
        return x;
    }

    /** As much of everything as can be; no THREAD. */
    private static CoatVotes full() {
        CoatVotes x = Due.people(0, 10, 20, 30, 40, 50, 60, 9);
        for (int i = 0; i < 6; i++) {
            x.motion(i == 5 ? 99 : 1, 255);
        }
        x.vote(0);
        x.change(0, 0, 9);
        x.change(2, 2, 5);
        x.set(0, 0);
        x.set(1, 0);
        Due.feed(x, "1+1+1+1+1+1+1+1+1+1+1+1+1+1+1+1+1+1+1+1+1+1+1+1+12");
        for (int i = 0; i < 20; i++) {
            x.tell(i == 19 ? 7 : 8);
        }
        x.image();
        return x;
    }

    /** DAY 9996; no IMAGE. */
    private static CoatVotes last() {
        CoatVotes x = Due.people(0, 60);
        x.motion(1, 1);
        x.set(0, 0);
        for (int i = 0; i < 167; i++) {
            x.days(i < 166 ? 60 : 36);
        }
        return x;
    }

    /** All that can be asked of an object, by calls some of which change it. */
    private static int[] all(CoatVotes x) {
        int[] all = new int[600];
        int n = seen(x, all, 0);
        int[] traced = new int[x.count(12)];
        for (int i = 0; i < traced.length; i++) {
            all[n++] = x.trace(i);
        }
        all[n++] = x.check();
        for (int sheet = 0; sheet < 4; sheet++) {
            all[n++] = x.healths(sheet);
            for (int p = 0; p < 4; p++) {
                all[n++] = x.ofPerson(p, 5);
            }
            all[n++] = x.put(sheet, 39, 0);
            all[n++] = x.move(sheet, 0, (sheet + 1) % 4, 0, 1);
            all[n++] = x.voted(sheet, 0);
        }
        all[n++] = x.law(0, 3, 4, 5);
        all[n++] = x.law(1, 3, 4, 5);
        all[n++] = x.text(1);
        all[n++] = x.law(1, 3, 4, 5);
        all[n++] = x.restore();
        n = seen(x, all, n);
        all[n++] = x.image();
        return Arrays.copyOf(all, n);
    }

    private static int seen(CoatVotes x, int[] all, int from) {
        int n = from;
        for (int what = 0; what < 14; what++) {
            all[n++] = x.count(what);
        }
        for (int p = 0; p < x.count(0); p++) {
            for (int what = 0; what < 10; what++) {
                all[n++] = x.ofPerson(p, what);
            }
        }
        for (int i = 0; i < x.count(1); i++) {
            for (int what = 0; what < 6; what++) {
                all[n++] = x.ofMotion(i, what);
            }
        }
        return n;
    }
}
