/** Terms 4, and the promises' own sentences that name an edge of what is answered well; RefusedTest has the ERRORS. */
final class EdgesOfCallsTest {
    private static final Due DUE = new Due("EdgesOfCallsTest");
    private static final int MIN = Due.MIN;
    private static final int MAX = Due.MAX;

    private EdgesOfCallsTest() { }

    public static void main(String[] args) {
        sheets();
        newObject();
        ofPerson();
        become();
        motion();
        feed();
        text();
        law();
        vote();
        sew();
        days();
        loose();
        seed();
        sheet();
        put();
        move();
        moveOfAll();
        healths();
        judge();
        image();
        imageKeeps();
        fewer();
        imageLeaves();
        tell();
        check();
        count();
        told();
        DUE.end();
    }

    private static void sheets() {
        DUE.about("Terms 4", "SHEETS 0 .. 3 are rows of 8, 16, 32 bits, at most 40 numbers, or missing (as at first).");
        CoatVotes x = new CoatVotes();
        for (int sheet = -1; sheet <= 4; sheet++) {
            int due = sheet < 0 || sheet > 3 ? Due.BEYOND : Due.NONE;
            DUE.is("healths(" + sheet + ") at first", x.healths(sheet), due);
            DUE.is("judge(" + sheet + ") at first", x.judge(sheet), due);
            DUE.is("put(" + sheet + ", 0, 0) at first", x.put(sheet, 0, 0), due);
            DUE.is("voted(" + sheet + ", 0) at first", x.voted(sheet, 0), due);
        }
        for (int bits : new int[] {-8, -1, 1, 4, 7, 9, 15, 17, 24, 31, 33, 64, MIN, MAX}) {
            DUE.is(bits + " bits", x.sheet(1, bits, 1), Due.BEYOND);
        }
        for (int bits : new int[] {8, 16, 32}) {
            for (int sheet = 0; sheet < 4; sheet++) {
                DUE.is(bits + " bits, forty", x.sheet(sheet, bits, 40), 1);
                DUE.is("the last", x.put(sheet, 39, 1), 1);
                DUE.is("behind the last", x.put(sheet, 40, 1), Due.BEYOND);
                DUE.is(bits + " bits, 41", x.sheet(sheet, bits, 41), Due.BEYOND);
                DUE.is(bits + " bits, none", x.sheet(sheet, bits, 0), 1);
                DUE.is("it isn't missing", x.put(sheet, 0, 1), Due.BEYOND);
                DUE.is("it has no numbers", x.judge(sheet), -1);
            }
        }
    }

    private static void newObject() {
        DUE.about("Promise 1", "All as at first; no PEOPLE, MOTIONS.");
        CoatVotes x = new CoatVotes();
        int[] due = {0, 0, 0, 0, 0, 0, 0, 5, 2, 2, 0, 0, 0, 1};
        for (int what = 0; what < due.length; what++) {
            DUE.is("count(" + what + ")", x.count(what), due[what]);
        }
        for (int k = 1; k <= 5; k++) {
            DUE.is("told(" + k + ")", x.told(k), 0);
        }
        DUE.is("no THE TAPE", x.text(0), -10);
        DUE.is("none waits", x.check(), 0);
        DUE.is("no IMAGE", x.restore(), Due.NONE);
        DUE.is("a VOTE by nobody", x.motion(0, 0) + x.vote(0), 0);
        DUE.is("a DAY for nobody", x.days(1), 0);
    }

    private static void ofPerson() {
        DUE.about("Promise 3", "7 how many one CUTS now, 8 COUNTS now (both 0, if not WILLING), 9 CHILL by the COLD of this DAY");
        CoatVotes x = Due.people(0, 21, 51, 30, 60);
        Due.text(x, 1, "d");
        Due.text(x, 0, "c+o+h/100");
        for (int p = 0; p < 5; p++) {
            x.change(p, 3, 0);
            for (int what = 6; what < 9; what++) {
                DUE.is("of one who is DEAD, " + what, x.ofPerson(p, what), 0);
            }
        }
        DUE.is("no COLD", x.ofPerson(0, 9), 0);
        DUE.is("no COLD, string", x.ofPerson(1, 9), 2);
        x.days(7);
        DUE.is("that of DAY 7, for the DEAD, too", x.ofPerson(0, 9), 7);
        DUE.is("string", x.ofPerson(1, 9), 9);
    }

    private static void become() {
        DUE.about("Promise 5", "Somebody becomes one of a KIND, with m (km): the KIND that one was.");
        CoatVotes x = Due.people(69);
        Due.has(x, 0, 9, 8, 7, 6);
        DUE.is("from 6", x.become(0, 0), 6);
        DUE.is("from 0", x.become(0, 69), 0);
        DUE.is("from 6", x.become(0, 69), 6);
        int[] due = {6, 9, 9, 8, 7, 6, 1, 2, 6};
        for (int what = 0; what < due.length; what++) {
            DUE.is("ofPerson(0, " + what + ")", x.ofPerson(0, what), due[what]);
        }
    }

    private static void motion() {
        DUE.about("Promise 7", "a set (0 to 255; who isn't there doesn't matter)");
        CoatVotes x = new CoatVotes();
        DUE.is("all, of nobody", x.motion(0, 255), 0);
        DUE.is("nothing COUNTS for it", x.ofMotion(0, 3), 0);
        DUE.is("it wouldn't PASS", x.ofMotion(0, 5), 0);
        x.person(0);
        DUE.is("1 COUNTS for it", x.ofMotion(0, 3), 1);
        DUE.is("nothing against it", x.ofMotion(0, 4), 0);
        DUE.is("it PASSES", x.vote(0), 1);
        DUE.about("Promise 9", "FOR of a MOTION becomes a set: what it was.");
        x.side(0, 255);
        DUE.is("from all, of one", x.side(0, 1), 255);
        DUE.is("from 1", x.side(0, 0), 1);
        DUE.is("from 0", x.side(0, 1), 0);
        DUE.is("it stays LAW", x.ofMotion(0, 2), 1);
        DUE.about("Promise 8", "2 whether LAW, 3 what COUNTS for it now, 4 against it, 5 whether it would PASS");
        x.change(0, 3, 29);
        DUE.is("LAW", x.ofMotion(0, 2), 1);
        DUE.is("for it", x.ofMotion(0, 3), 0);
        DUE.is("would", x.ofMotion(0, 5), 0);
    }

    private static void feed() {
        DUE.about("Promise 11", "The n lowest bytes (1 .. 8) of a word, the lowest first, come to THE TAPE: how many there are.");
        CoatVotes x = new CoatVotes();
        DUE.is("one of eight", x.feed(0x7878787878787863L, 1), 1);
        DUE.is("two", x.feed(0x7878787878786F2BL, 2), 3);
        DUE.is("eight", x.feed(0x682B352B342B332BL, 8), 11);
        DUE.is("read", x.text(0), 1);
        DUE.is("c+o+3+4+5+h", x.law(0, 10, 20, 30), 72);
        x.feed(-1L, 8);
        DUE.is("byte 255 is none of a TEXT", x.text(0), -10);
        x.feed(0x6363636363636363L, 1);
        x.feed((0xABL << 56) | 0x2B632B632B632BL | (0x63L << 56), 8);
        DUE.is("the eighth byte, a wrong one", x.text(0), -18);
        for (int n = 1; n <= 8; n++) {
            CoatVotes y = new CoatVotes();
            for (int i = 0; i < 5; i++) {
                y.feed(0x3131313131313131L, 8);
            }
            y.feed(0x3131313131313131L, 10 - n);
            DUE.is("up to fifty", y.feed(0x3131313131313131L, n), n == 1 ? 41 : 50);
        }
    }

    private static void text() {
        DUE.about("Promise 12", "THE TAPE, which is empty then, is the TEXT of a USE (0, 1), in place of one ahead: 1.");
        CoatVotes x = new CoatVotes();
        for (int use = 0; use < 2; use++) {
            DUE.is("the first", Due.text(x, use, "3+4"), 1);
            DUE.is("THE TAPE", x.count(10), 0);
            DUE.is("gives", x.law(use, 0, 0, 0), 7);
            DUE.is("a shorter one", Due.text(x, use, "5"), 1);
            DUE.is("gives", x.law(use, 0, 0, 0), 5);
            DUE.is("the other has its own", x.law(1 - use, 9, 9, 9), use == 0 ? 9 : 5);
        }
        DUE.about("Promise 12", "BEYOND (THE TAPE stays).");
        x.feed(0x39L, 1);
        DUE.is("USE 2", x.text(2), Due.BEYOND);
        DUE.is("USE -1", x.text(-1), Due.BEYOND);
        DUE.is("THE TAPE", x.count(10), 1);
        DUE.is("it is read then", x.text(0), 1);
        DUE.is("gives", x.law(0, 0, 0, 0), 9);
        DUE.about("Promise 12", "-10 less the FAULT (no ERROR; the one ahead stays; THE TAPE is empty, too)");
        int errors = x.told(1);
        DUE.is("a FAULT at 1", Due.text(x, 0, "8)"), -11);
        DUE.is("THE TAPE", x.count(10), 0);
        DUE.is("the one ahead", x.law(0, 0, 0, 0), 9);
        DUE.is("a FAULT at its end", Due.text(x, 0, "8+7-"), -14);
        DUE.is("the one ahead", x.law(0, 0, 0, 0), 9);
        DUE.is("THE TAPE is empty: a FAULT at 0", x.text(0), -10);
        DUE.is("the one ahead", x.law(0, 0, 0, 0), 9);
        DUE.is("no ERROR", x.told(1) - errors, 0);
    }

    private static void law() {
        DUE.about("Promise 13", "What a USE gives with its NAMES in order as a, b, c.");
        CoatVotes x = new CoatVotes();
        String[] names = {"coh", "dwl"};
        for (int use = 0; use < 2; use++) {
            for (int i = 0; i < 3; i++) {
                Due.text(x, use, names[use].substring(i, i + 1));
                DUE.is(names[use].charAt(i) + " of USE " + use, x.law(use, 11, 22, 33), 11 * (i + 1));
            }
            Due.text(x, use, names[use].charAt(0) + "+" + names[use].charAt(1) + "+" + names[use].charAt(2));
            DUE.is("any numbers", x.law(use, MAX, MAX, 5), 3);
        }
    }

    private static void vote() {
        DUE.about("Promise 14", "A VOTE: 1 if it PASSES, else 0.");
        CoatVotes x = Due.people(0);
        for (int i = 0; i < 6; i++) {
            x.motion(1, i % 2);
        }
        DUE.is("the first", x.vote(0), 0);
        DUE.is("the last", x.vote(5), 1);
        DUE.is("LAW", x.count(4), 32);
        DUE.is("a seventh", x.vote(6), Due.BEYOND);
        DUE.is("two were cut", x.ofPerson(0, 4), 2);
        DUE.is("DAY", x.count(2), 0);
    }

    /** One who could have a button sewn on, but for what is spoiled. */
    private static CoatVotes sewable() {
        CoatVotes x = Due.people(0);
        x.motion(0, 1);
        Due.has(x, 0, 1, 1, 0, 99);
        x.vote(0);
        x.vote(0);
        Due.has(x, 0, 8, 8, 1, 1);
        x.set(1, 1);
        return x;
    }

    private static void sew() {
        for (int brass = 0; brass < 2; brass++) {
            DUE.about("Promise 15", "To SEW: OPEN then.");
            CoatVotes x = sewable();
            DUE.is("up to nine", x.sew(0, brass), 0);
            DUE.about("Promise 15", "BEYOND: also a button of more than 9.");
            x = sewable();
            x.change(0, brass, 9);
            DUE.is("a tenth", x.sew(0, brass), Due.BEYOND);
            DUE.is("nine of the other, first", x.change(0, brass, 8), 9);
            x.change(0, 1 - brass, 9);
            DUE.is("nine of the other", x.sew(0, brass), 0);
            DUE.about("Promise 15", "STATE: DEAD, no THREAD, none such in THE URN, OPEN is 0.");
            x = sewable();
            x.change(0, 3, 0);
            DUE.is("DEAD", x.sew(0, brass), Due.STATE);
            x = sewable();
            x.set(1, 0);
            DUE.is("no THREAD", x.sew(0, brass), Due.STATE);
            x = sewable();
            x.change(0, 2, 0);
            DUE.is("OPEN is 0", x.sew(0, brass), Due.STATE);
            x = sewable();
            x.sew(0, brass);
            x.set(1, 9);
            Due.has(x, 0, 8, 8, 9, 99);
            DUE.is("none such in THE URN", x.sew(0, brass), Due.STATE);
            DUE.is("but one of the others", x.sew(0, 1 - brass), 8);
        }
    }

    private static void days() {
        DUE.about("Promise 16", "n (1 to 60) DAYS: how many aren't DEAD then.");
        CoatVotes x = Due.people(0, 0);
        x.change(0, 2, 1);
        x.change(0, 3, 61);
        DUE.is("one", x.days(1), 2);
        DUE.is("sixty: the last of 61 takes one", x.days(60), 1);
        DUE.is("DAY", x.count(2), 61);
        DUE.is("none", x.days(0), Due.BEYOND);
        DUE.is("61", x.days(61), Due.BEYOND);
        DUE.about("Promise 16", "STATE: DAY would be above 9999.");
        CoatVotes y = new CoatVotes();
        for (int i = 0; i < 166; i++) {
            y.days(60);
        }
        DUE.is("9960 and 40", y.days(40), Due.STATE);
        DUE.is("9960 and 39", y.days(39), 0);
        DUE.is("DAY", y.count(2), 9999);
        DUE.is("9999 and 1", y.days(1), Due.STATE);
    }

    private static void loose() {
        DUE.about("Promise 17", "n (1 to 40) DAYS by draws: likewise.");
        CoatVotes x = Due.people(0, 0);
        x.change(1, 3, 0);
        DUE.is("one", x.loose(1), 1);
        DUE.is("forty", x.loose(40), 1);
        DUE.is("DAY", x.count(2), 41);
        DUE.is("none", x.loose(0), Due.BEYOND);
        DUE.is("41", x.loose(41), Due.BEYOND);
        x.change(0, 2, 99);
        x.change(0, 3, 1);
        DUE.is("one who freezes in forty", x.loose(40), 0);
        DUE.about("Promise 17", "STATE: DAY would be above 9999.");
        CoatVotes y = new CoatVotes();
        for (int i = 0; i < 166; i++) {
            y.days(60);
        }
        DUE.is("9960 and 40", y.loose(40), Due.STATE);
        DUE.is("9960 and 39", y.loose(39), 0);
        DUE.is("DAY", y.count(2), 9999);
        DUE.is("9999 and 1", y.loose(1), Due.STATE);
    }

    private static void seed() {
        DUE.about("Promise 27", "z becomes v: what it was (any number).");
        CoatVotes x = new CoatVotes();
        int ahead = 1;
        for (int v : new int[] {0, -1, MIN, MAX, Due.LOW, Due.BEYOND, Due.KIND, 7}) {
            DUE.is("from " + ahead, x.seed(v), ahead);
            DUE.is("it is " + v, x.count(13), v);
            ahead = v;
        }
        for (int k = 1; k <= 5; k++) {
            DUE.is("no ERROR", x.told(k), 0);
        }
        DUE.about("Promise 28", "A VOICE of somebody: any number.");
        x.person(0);
        DUE.is("one like an ERROR", x.voice(0, 0, Due.NONE), Due.NONE);
        DUE.is("is none", x.told(2), 0);
    }

    private static void sheet() {
        DUE.about("Promise 30", "A SHEET has n numbers, all 0, of so many bits (8, 16, 32; 0: it is missing, n doesn't matter): 1.");
        CoatVotes x = Due.people(0, 0);
        for (int bits : new int[] {8, 16, 32}) {
            Due.sheet(x, 2, bits, 5, 6);
            DUE.is("not all 0", x.judge(2), 0);
            DUE.is("anew", x.sheet(2, bits, 2), 1);
            DUE.is("all 0", x.judge(2), -1);
            x.put(2, 1, 9);
            DUE.is("fewer", x.sheet(2, bits, 1), 1);
            DUE.is("the second lacks", x.judge(2), 1);
            DUE.is("as many again", x.sheet(2, bits, 2), 1);
            DUE.is("all 0", x.judge(2), -1);
        }
        for (int n : new int[] {0, 1, 40, 41, -1, MIN, MAX}) {
            x.sheet(2, 8, 2);
            DUE.is("0 bits, n is " + n, x.sheet(2, 0, n), 1);
            DUE.is("it is missing", x.judge(2), Due.NONE);
        }
        DUE.is("missing, once more", x.sheet(2, 0, 0), 1);
        DUE.about("Promise 30", "STATE: n is below 0 (ahead of BEYOND of n).");
        DUE.is("-1", x.sheet(0, 8, -1), Due.STATE);
        DUE.is("MIN", x.sheet(0, 8, MIN), Due.STATE);
        DUE.is("no such SHEET is ahead of it", x.sheet(4, 8, -1), Due.BEYOND);
        DUE.is("no such bits are ahead of it", x.sheet(0, 9, -1), Due.BEYOND);
        DUE.is("41", x.sheet(0, 8, 41), Due.BEYOND);
    }

    private static void put() {
        DUE.about("Promise 31", "Number i of a SHEET becomes v (its lowest bits): 1.");
        int[] bits = {8, 16, 32};
        int[][] wraps = {{256, 257, 65536 + 1, -255, MIN}, {65536, 65537, 65536 * 5 + 7, -65535, MIN}, {0, 1, 2, 3, 99}};
        int[][] due = {{0, 1, 1, 1, 0}, {0, 1, 7, 1, 0}, {0, 1, 2, 3, 99}};
        for (int b = 0; b < 3; b++) {
            for (int i = 0; i < 5; i++) {
                CoatVotes x = Due.people(0, 0);
                x.sheet(0, bits[b], 2);
                DUE.is("put", x.put(0, 1, wraps[b][i]), 1);
                x.change(1, 2, due[b][i]);
                DUE.is(wraps[b][i] + " in " + bits[b] + " bits", x.judge(0), -1);
                DUE.is("as HEALTH", x.healths(0), 2);
                DUE.is("HEALTH then", x.ofPerson(1, 5), due[b][i]);
            }
        }
        DUE.about("Promise 31", "Number i of a SHEET becomes v (its lowest bits)");
        for (int b = 0; b < 3; b++) {
            CoatVotes x = Due.people(0, 0);
            x.sheet(0, bits[b], 2);
            for (int k = 0; k < 3; k++) {
                x.put(0, 1, 1 << bits[k] - 1);
                DUE.is("the highest of " + bits[k] + " in " + bits[b] + " bits", x.judge(0), bits[k] <= bits[b] ? 1 : -1);
                DUE.is("it is no HEALTH", x.healths(0), bits[k] <= bits[b] ? 1 : 2);
            }
        }
    }

    /** The numbers of a SHEET, told by HEALTH; at most eight. */
    private static void holds(CoatVotes x, int sheet, int... numbers) {
        x.healths(sheet);
        for (int p = 0; p < numbers.length; p++) {
            DUE.is("number " + p + " of SHEET " + sheet, x.ofPerson(p, 5), numbers[p]);
        }
    }

    private static void move() {
        DUE.about("Promise 32", "n numbers of a SHEET, from number i on, come to another one (or the same), from its number j on, as they all were: n.");
        CoatVotes x = Due.people(0, 0, 0, 0, 0);
        for (int bits : new int[] {8, 16, 32}) {
            Due.sheet(x, 0, bits, 1, 2, 3, 4, 5);
            Due.sheet(x, 3, bits, 6, 7, 8);
            DUE.is("the last to the first", x.move(0, 4, 3, 0, 1), 1);
            holds(x, 3, 5, 7, 8);
            holds(x, 0, 1, 2, 3, 4, 5);
            DUE.is("all of three to the end", x.move(3, 0, 0, 2, 3), 3);
            holds(x, 0, 1, 2, 5, 7, 8);
            DUE.is("up by one, in the same", x.move(0, 0, 0, 1, 4), 4);
            holds(x, 0, 1, 1, 2, 5, 7);
            DUE.is("down by one, in the same", x.move(0, 1, 0, 0, 4), 4);
            holds(x, 0, 1, 2, 5, 7, 7);
            DUE.is("all, where they are", x.move(0, 0, 0, 0, 5), 5);
            holds(x, 0, 1, 2, 5, 7, 7);
            DUE.is("none", x.move(0, 0, 3, 0, 0), 0);
            DUE.is("none, behind the last", x.move(0, 5, 3, 3, 0), 0);
            holds(x, 3, 5, 7, 8);
            DUE.about("Promise 32", "BEYOND: n, i, or j is below 0, or they don't stand there.");
            DUE.is("one too many there", x.move(0, 0, 3, 1, 3), Due.BEYOND);
            DUE.is("one too many here", x.move(3, 1, 0, 0, 3), Due.BEYOND);
            DUE.is("behind the last here", x.move(3, 3, 0, 0, 1), Due.BEYOND);
            DUE.is("behind the last there", x.move(0, 0, 3, 3, 1), Due.BEYOND);
            DUE.is("n is -1", x.move(0, 1, 3, 1, -1), Due.BEYOND);
            DUE.is("i is -1", x.move(0, -1, 3, 1, 1), Due.BEYOND);
            DUE.is("j is -1", x.move(0, 1, 3, -1, 1), Due.BEYOND);
            DUE.is("i and n go round", x.move(0, MAX, 3, 0, MAX), Due.BEYOND);
            DUE.is("j and n go round", x.move(0, 0, 3, MAX, MAX), Due.BEYOND);
            holds(x, 3, 5, 7, 8);
            holds(x, 0, 1, 2, 5, 7, 7);
        }
    }

    private static void moveOfAll() {
        DUE.about("Promise 32", "n numbers of a SHEET .. come to another one .. as they all were: n.");
        CoatVotes x = Due.people(0, 0);
        x.sheet(0, 16, 40);
        x.sheet(1, 16, 40);
        for (int i = 0; i < 40; i++) {
            x.put(0, i, i + 1);
        }
        DUE.is("forty", x.move(0, 0, 1, 0, 40), 40);
        x.sheet(2, 16, 2);
        for (int i = 0; i < 40; i += 2) {
            x.move(1, i, 2, 0, 2);
            holds(x, 2, i + 1, i + 2);
        }
        DUE.is("39 up, in the same", x.move(0, 0, 0, 1, 39), 39);
        x.move(0, 38, 2, 0, 2);
        holds(x, 2, 38, 39);
        x.move(0, 0, 2, 0, 2);
        holds(x, 2, 1, 1);
    }

    private static void healths() {
        DUE.about("Promise 33", "how many, up to the first that is not 0 to 99 (no ERROR then), or for which there is nobody");
        int[][] rows = {{0, 99, 50}, {100, 5, 5}, {5, 100, 5}, {5, 5, 100}, {5, -1, 5}, {MAX, 5, 5}, {5, MIN, 5}, {0, 0, 0}};
        int[] due = {3, 0, 1, 2, 1, 0, 1, 3};
        for (int i = 0; i < rows.length; i++) {
            CoatVotes x = Due.people(0, 0, 0);
            Due.sheet(x, 0, 32, rows[i]);
            DUE.is("how many of row " + i, x.healths(0), due[i]);
            for (int p = 0; p < 3; p++) {
                DUE.is("HEALTH " + p + " by row " + i, x.ofPerson(p, 5), p < due[i] ? rows[i][p] : 99);
            }
            DUE.is("no ERROR", x.told(1) + x.told(2), 0);
            x.person(0);
            DUE.is("as many numbers as there are", x.healths(0), due[i]);
            DUE.is("one for whom there is none", x.ofPerson(3, 5), 99);
        }
        CoatVotes x = new CoatVotes();
        Due.sheet(x, 0, 8, 5);
        DUE.is("nobody is there", x.healths(0), 0);
        x.person(0);
        x.sheet(0, 8, 40);
        DUE.is("forty numbers for one", x.healths(0), 1);
        DUE.is("DEAD", x.count(3), 0);
        Due.sheet(x, 0, 8, 7);
        x.healths(0);
        DUE.is("not DEAD any more", x.count(3), 1);
        x.sheet(0, 8, 0);
        DUE.is("no numbers", x.healths(0), 0);
    }

    private static void judge() {
        DUE.about("Promise 34", "Numbers of a SHEET are OPEN of PEOPLE 0, 1, ..: the first that isn't so (one that lacks, or is too many, too); -1: all are.");
        CoatVotes x = Due.people(0, 0);
        x.change(0, 2, 99);
        int[][] rows = {{99, 0}, {98, 0}, {99, 1}, {98, 1}, {99}, {98}, {}, {99, 0, 0}, {99, 1, 0}, {99 + 256, 0}, {-1, 0}};
        int[] due = {-1, 0, 1, 0, 1, 0, 0, 2, 1, 0, 0};
        for (int i = 0; i < rows.length; i++) {
            Due.sheet(x, 1, 16, rows[i]);
            DUE.is("row " + i, x.judge(1), due[i]);
        }
        CoatVotes none = new CoatVotes();
        none.sheet(0, 8, 0);
        DUE.is("nobody and nothing", none.judge(0), -1);
        none.sheet(0, 8, 40);
        DUE.is("nobody", none.judge(0), 0);
        CoatVotes all = Due.people(0, 0, 0, 0, 0, 0, 0, 0);
        all.sheet(0, 8, 8);
        DUE.is("eight", all.judge(0), -1);
        all.sheet(0, 8, 40);
        DUE.is("the ninth is too many", all.judge(0), 8);
    }

    private static void image() {
        DUE.about("Promise 35", "is kept as an IMAGE, in place of one ahead: how often that was done");
        CoatVotes x = new CoatVotes();
        DUE.about("Promise 36", "NONE: there is none.");
        DUE.is("none at first", x.restore(), Due.NONE);
        DUE.about("Promise 35", "how often that was done");
        for (int i = 1; i <= 5; i++) {
            x.days(2);
            DUE.is("once more", x.image(), i);
        }
        DUE.about("Promise 36", "All is as the IMAGE has it, which stays: DAY.");
        x.days(3);
        DUE.is("the latest", x.restore(), 10);
        DUE.is("DAY", x.count(2), 10);
        x.days(1);
        DUE.is("it stays", x.restore(), 10);
        DUE.is("it stays", x.restore(), 10);
        DUE.about("Promise 35", "All (but .. how often this was done) is kept");
        DUE.is("the sixth, behind restore()", x.image(), 6);
    }

    /** Each thing alone is kept: one object is changed in that thing only. */
    private static void imageKeeps() {
        DUE.about("Promise 35", "All (but SHEETS, THE TRACE, what told() tells, and how often this was done) is kept as an IMAGE");
        CoatVotes x = Due.people(12, 65);
        x.motion(3, 1);
        x.motion(0, 2);
        Due.text(x, 0, "9");
        Due.feed(x, "7");
        x.tell(2);
        x.vote(1);
        int[] ahead = things(x);
        x.image();
        x.change(0, 0, 7);
        isAgain(x, ahead, "HORN");
        x.change(0, 1, 7);
        isAgain(x, ahead, "BRASS");
        x.change(1, 2, 7);
        isAgain(x, ahead, "OPEN");
        x.change(1, 3, 7);
        isAgain(x, ahead, "HEALTH");
        x.become(0, 33);
        isAgain(x, ahead, "KIND and m");
        x.person(0);
        isAgain(x, ahead, "PEOPLE");
        x.motion(9, 9);
        isAgain(x, ahead, "MOTIONS");
        x.side(0, 3);
        isAgain(x, ahead, "FOR");
        x.change(1, 1, 9);
        x.vote(0);
        isAgain(x, ahead, "THE URN");
        x.set(0, 7);
        isAgain(x, ahead, "WINTER");
        x.set(1, 7);
        isAgain(x, ahead, "THREAD");
        x.days(2);
        isAgain(x, ahead, "DAY");
        x.seed(4);
        isAgain(x, ahead, "z");
        x.tell(4);
        isAgain(x, ahead, "what waits");
        x.check();
        isAgain(x, ahead, "what waits");
        x.feed('1', 1);
        isAgain(x, ahead, "THE TAPE");
        Due.text(x, 0, "");
        isAgain(x, ahead, "the TEXT of CHILL, THE TAPE");
        x.text(1);
        isAgain(x, ahead, "the TEXT of COLD, THE TAPE");
        x.text(1);
        Due.feed(x, "55");
        x.restore();
        DUE.is("the byte of THE TAPE", x.text(1) + x.law(1, 0, 0, 0), 8);
        x.check();
        x.tell(9);
        x.restore();
        DUE.is("the number that waits", x.check(), 0);
        x.restore();
        x.side(0, 3);
        x.set(1, 9);
        x.vote(0);
        DUE.is("a new LAW", x.count(4), 3);
        x.restore();
        DUE.is("LAWS", x.count(4), 2);
    }

    private static void isAgain(CoatVotes x, int[] ahead, String what) {
        x.restore();
        int[] now = things(x);
        for (int i = 0; i < ahead.length; i++) {
            DUE.is(what + ", thing " + i, now[i], ahead[i]);
        }
    }

    private static int[] things(CoatVotes x) {
        return new int[] {x.count(0), x.count(1), x.count(2), x.count(4), x.count(5), x.count(6), x.count(7), x.count(8), x.count(9),
            x.count(10), x.count(11), x.count(13), x.ofPerson(0, 0), x.ofPerson(0, 1), x.ofPerson(0, 2), x.ofPerson(0, 3),
            x.ofPerson(1, 4), x.ofPerson(1, 5), x.ofPerson(0, 9), x.ofMotion(0, 1), x.ofMotion(0, 2)};
    }

    /** Those who came behind image() are not there behind restore(), and who comes then has all as at first. */
    private static void fewer() {
        DUE.about("Promise 36", "All is as the IMAGE has it");
        CoatVotes x = Due.people(20, 20);
        x.motion(0, 4);
        x.image();
        x.person(69);
        x.person(0);
        x.motion(9, 7);
        Due.has(x, 2, 9, 9, 50, 50);
        x.side(1, 3);
        x.restore();
        DUE.is("nobody is for it", x.ofMotion(0, 3), 0);
        DUE.is("nobody turns", x.turning(0), 0);
        DUE.is("two live", x.live(0), 3);
        DUE.is("the two alone", x.tailor(9), 0);
        DUE.is("nobody freezes in 9", x.harder(9), Due.NONE);
        Due.sheet(x, 0, 8, 0, 0);
        DUE.is("four sets that cut nothing", x.voted(0, 0), 4);
        DUE.is("none is too many", x.judge(0), -1);
        x.vote(0);
        DUE.is("nothing lies in THE URN", x.count(5) + x.count(6), 0);
        DUE.is("two live then", x.days(1), 2);
        DUE.is("no third", x.ofPerson(2, 0), Due.BEYOND);
        DUE.is("no second MOTION", x.ofMotion(1, 0), Due.BEYOND);
        DUE.about("Terms 1", "4 and 1 at first .. 0 at first .. 99 at first .. LAW or not (at first)");
        DUE.is("a new third", x.person(31), 2);
        int[] due = {3, 1, 4, 1, 0, 99};
        for (int what = 0; what < due.length; what++) {
            DUE.is("ofPerson(2, " + what + ")", x.ofPerson(2, what), due[what]);
        }
        DUE.is("a new second", x.motion(5, 1), 1);
        int[] motion = {5, 1, 0, 0, 3, 0};
        for (int what = 0; what < motion.length; what++) {
            DUE.is("ofMotion(1, " + what + ")", x.ofMotion(1, what), motion[what]);
        }
    }

    private static void imageLeaves() {
        DUE.about("Promise 35", "All (but SHEETS, THE TRACE, what told() tells, ..)");
        CoatVotes x = Due.people(0);
        x.sheet(0, 8, 1);
        x.sheet(1, 8, 1);
        x.sheet(3, 8, 1);
        x.voice(0, 0, 1);
        x.image();
        x.sheet(0, 0, 0);
        x.put(1, 0, 5);
        x.sheet(2, 32, 2);
        x.voice(0, 1, 1);
        x.person(70);
        x.restore();
        DUE.is("SHEET 0 is missing", x.judge(0), Due.NONE);
        DUE.is("SHEET 1 has its 5", x.healths(1) + x.ofPerson(0, 5), 6);
        DUE.is("SHEET 2 is there", x.put(2, 1, 0), 1);
        DUE.is("SHEET 3 is as it was", x.put(3, 0, 0), 1);
        DUE.is("THE TRACE", x.count(12), 2);
        DUE.is("THE TRACE", x.trace(0), 11);
        DUE.is("told(1)", x.told(1), 1);
        DUE.is("told(2)", x.told(2), 1);
    }

    private static void tell() {
        DUE.about("Promise 37", "One more number waits: how many. FULL: 20 wait.");
        CoatVotes x = new CoatVotes();
        for (int i = 1; i <= 20; i++) {
            DUE.is("number " + i, x.tell(i == 5 ? Due.BEYOND : 0), i);
        }
        DUE.is("one more", x.tell(0), Due.FULL);
        DUE.is("twenty wait", x.count(11), 20);
        DUE.is("the fifth isn't so", x.check(), 5);
        DUE.is("none waits", x.count(11), 0);
        DUE.is("the first again", x.tell(0), 1);
    }

    private static CoatVotes dieBehind(int... days) {
        CoatVotes x = new CoatVotes();
        for (int day : days) {
            Due.has(x, x.person(0), 4, 1, 1, day);
        }
        return x;
    }

    private static void check() {
        DUE.about("Promise 38", "The numbers that wait (none do then) are how many aren't DEAD behind 1, 2, .. DAYS: 0; else 1 and the place (from 0) of the first that isn't so.");
        for (int wrong = -1; wrong < 20; wrong++) {
            CoatVotes x = dieBehind(1, 10, 19, 20, 21);
            for (int i = 0; i < 20; i++) {
                int due = i < 9 ? 4 : i < 18 ? 3 : i == 18 ? 2 : 1;
                x.tell(i == wrong ? due + (wrong % 2 == 0 ? 1 : -1) : due);
            }
            DUE.is("number " + wrong + " isn't so", x.check(), wrong + 1);
            DUE.is("none waits then", x.count(11), 0);
            DUE.is("none isn't so", x.check(), 0);
            DUE.is("DAY", x.count(2), 0);
        }
        CoatVotes x = dieBehind(1);
        x.tell(1);
        x.tell(1);
        DUE.is("two aren't so: the first", x.check(), 1);
        x.tell(MIN);
        DUE.is("MIN", x.check(), 1);
        x.tell(0);
        DUE.is("behind 1, not behind none", x.check(), 0);
    }

    private static void count() {
        DUE.about("Promise 39", "0 PEOPLE, .. 13 z (any number).");
        CoatVotes x = Due.people(60, 0);
        x.change(1, 3, 0);
        x.motion(0, 1);
        x.motion(0, 0);
        x.motion(0, 1);
        x.vote(2);
        x.vote(1);
        x.sew(0, 0);
        x.days(3);
        x.set(0, 7);
        x.feed(0x31L, 1);
        x.tell(4);
        x.tell(5);
        x.voice(0, 1, 1);
        x.seed(Due.KIND);
        int[] due = {2, 3, 3, 1, 4, 2, 1, 4, 7, 7, 1, 2, 5, Due.KIND};
        for (int what = 0; what < due.length; what++) {
            DUE.is("count(" + what + ")", x.count(what), due[what]);
        }
        DUE.is("count(14)", x.count(14), Due.BEYOND);
        DUE.is("count(-1)", x.count(-1), Due.BEYOND);
        DUE.is("z is no ERROR", x.told(5), 0);
        DUE.is("they are", x.told(1), 2);
    }

    private static void told() {
        DUE.about("Promise 40", "How many acts have answered an ERROR LOW - k (k 1 .. 5); BEYOND: another k (counted, too).");
        CoatVotes x = new CoatVotes();
        for (int k : new int[] {0, 6, -1, MIN, MAX}) {
            int ahead = x.told(1);
            DUE.is("told(" + k + ")", x.told(k), Due.BEYOND);
            DUE.is("counted, too", x.told(1), ahead + 1);
        }
        x.trace(0);
        x.restore();
        x.sheet(0, 8, -1);
        x.person(0);
        x.as(0, 1);
        for (int i = 0; i < 23; i++) {
            x.tell(0);
        }
        int[] due = {5, 2, 1, 3, 1};
        for (int k = 1; k <= 5; k++) {
            DUE.is("told(" + k + ")", x.told(k), due[k - 1]);
        }
    }
}
