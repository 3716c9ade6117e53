/** Promises 35 to 40: images, what waits and is checked, counts, what is told. */
final class ImagesTest {
    private static final Due DUE = new Due("ImagesTest");

    private ImagesTest() { }

    public static void main(String[] args) {
        imageAndRestore();
        notKept();
        tellAndCheck();
        count();
        told();
        DUE.end();
    }

    private static CoatVotes full() {
        CoatVotes x = Due.people(5, 65);
        x.motion(1, 3);
        x.motion(1, 0);
        x.vote(0);
        x.change(1, 3, 77);
        x.set(0, 3);
        x.set(1, 8);
        Due.text(x, 0, "o+1");
        Due.text(x, 1, "w+l");
        x.feed(0x3131L, 2);
        x.seed(9);
        x.tell(2);
        x.days(4);
        return x;
    }

    private static void isFull(CoatVotes x, String when) {
        int[] counts = {2, 2, 4, 2, 1, 2, 1, 8, 3, 4, 2, 1, 0, 9};
        for (int what = 0; what < counts.length; what++) {
            DUE.is("36: count(" + what + ")" + when, x.count(what), counts[what]);
        }
        int[] people = {0, 5, 3, 1, 1, 91, 1, 1, 1, 2, 6, 5, 3, 0, 2, 65, 1, 2, 2, 3};
        for (int i = 0; i < people.length; i++) {
            DUE.is("36: ofPerson(" + i / 10 + ", " + i % 10 + ")" + when, x.ofPerson(i / 10, i % 10), people[i]);
        }
        int[] motion = {1, 3, 1, 3, 0, 1};
        for (int what = 0; what < motion.length; what++) {
            DUE.is("36: ofMotion(0, " + what + ")" + when, x.ofMotion(0, what), motion[what]);
        }
        DUE.is("36: chill" + when, x.law(0, 0, 5, 0), 6);
        DUE.is("36: cold" + when, x.law(1, 0, 5, 7), 12);
    }

    private static void spoil(CoatVotes x) {
        x.check();
        x.side(1, 3);
        x.vote(1);
        x.loose(5);
        x.person(33);
        x.motion(50, 9);
        x.side(0, 0);
        x.become(0, 41);
        x.become(1, 22);
        x.change(0, 0, 9);
        x.change(0, 1, 9);
        x.change(0, 2, 9);
        x.set(1, 0);
        Due.text(x, 0, "9");
        Due.text(x, 1, "7");
        x.feed(0x32323232L, 4);
        x.tell(7);
        x.tell(7);
    }

    private static void imageAndRestore() {
        CoatVotes x = full();
        isFull(x, " ahead");
        DUE.is("35: the first", x.image(), 1);
        isFull(x, " behind image()");
        spoil(x);
        DUE.is("36: day", x.restore(), 4);
        isFull(x, " behind restore()");
        DUE.is("36: what waits is kept", x.check(), 0);
        x.image();
        spoil(x);
        DUE.is("36: it stays", x.restore(), 4);
        DUE.is("36: and again", x.restore(), 4);
        DUE.is("36: nothing waits now", x.count(11), 0);
        DUE.is("36: the tape's bytes", x.text(1), 1);
        DUE.is("36: are those", x.count(9), 11);
        x.days(1);
        DUE.is("35: the third, in place of the one ahead", x.image(), 3);
        x.days(2);
        DUE.is("36: the third's day", x.restore(), 5);
        DUE.is("35: how often isn't kept", x.image(), 4);
        CoatVotes y = new CoatVotes();
        DUE.is("36: none", y.restore(), Due.NONE);
        y.image();
        y.person(0);
        Due.text(y, 1, "5");
        DUE.is("36: a new object's", y.restore(), 0);
        DUE.is("36: nobody", y.count(0), 0);
        DUE.is("36: no text", y.count(9), 2);
    }

    private static void notKept() {
        CoatVotes x = Due.people(0);
        Due.sheet(x, 0, 8, 1);
        x.voice(0, 0, 0);
        x.person(70);
        x.image();
        x.put(0, 0, 0);
        x.sheet(1, 16, 2);
        x.voice(0, 1, 0);
        x.person(70);
        x.restore();
        DUE.is("36: sheets stay", x.judge(0), -1);
        DUE.is("36: sheets stay", x.put(1, 1, 0), 1);
        DUE.is("36: the trace stays", x.count(12), 2);
        DUE.is("36: the trace stays", x.trace(0), 11);
        DUE.is("36: what is told stays", x.told(1), 2);
    }

    private static void tellAndCheck() {
        CoatVotes x = Due.people(0, 0, 20);
        x.change(0, 2, 33);
        x.change(1, 2, 50);
        DUE.is("38: none waits", x.check(), 0);
        int[] due = {3, 2, 1, 1};
        for (int i = 0; i < due.length; i++) {
            DUE.is("37: how many", x.tell(due[i]), i + 1);
        }
        DUE.is("38: all so", x.check(), 0);
        DUE.is("38: none waits then", x.count(11), 0);
        x.tell(3);
        x.tell(2);
        x.tell(2);
        x.tell(9);
        DUE.is("38: the third isn't so", x.check(), 3);
        DUE.is("38: none waits then", x.count(11), 0);
        x.tell(Integer.MIN_VALUE);
        DUE.is("38: the first isn't so", x.check(), 1);
        for (int i = 0; i < 20; i++) {
            DUE.is("37: how many", x.tell(i == 0 ? 3 : i == 1 ? 2 : i == 19 ? 0 : 1), i + 1);
        }
        DUE.is("37: full", x.tell(0), Due.FULL);
        DUE.is("37: twenty", x.count(11), 20);
        DUE.is("38: the last isn't so", x.check(), 20);
        DUE.is("38: only thought", x.count(2) + x.count(3), 3);
    }

    private static void count() {
        CoatVotes x = full();
        isFull(x, " of count");
        x.change(0, 3, 0);
        DUE.is("39: who isn't dead", x.count(3), 1);
        DUE.is("39: people", x.count(0), 2);
        x.voice(0, 3, 1);
        DUE.is("39: bodies", x.count(12), 4);
        DUE.is("39: nothing", x.count(14), Due.BEYOND);
        DUE.is("39: nothing", x.count(-1), Due.BEYOND);
        x.seed(Due.NONE);
        DUE.is("39: any number", x.count(13), Due.NONE);
        DUE.is("39: is no error", x.told(2), 0);
        DUE.is("39: errors", x.told(1), 2);
        x.motion(0, 2);
        x.vote(2);
        DUE.is("39: laws, as a set", x.count(4), 5);
        DUE.is("39: cold by two laws", x.count(9), 5);
    }

    private static void told() {
        CoatVotes x = Due.people(0);
        x.person(70);
        x.trace(0);
        x.trace(0);
        x.sew(0, 0);
        x.sew(0, 1);
        x.sheet(0, 8, -1);
        for (int i = 0; i < 24; i++) {
            x.tell(0);
        }
        for (int i = 0; i < 5; i++) {
            x.as(0, 3);
        }
        int[] due = {1, 2, 3, 4, 5};
        for (int k = 1; k <= 5; k++) {
            DUE.is("40: told(" + k + ")", x.told(k), due[k - 1]);
        }
        DUE.is("40: another", x.told(0), Due.BEYOND);
        DUE.is("40: another", x.told(6), Due.BEYOND);
        DUE.is("40: another", x.told(Integer.MIN_VALUE), Due.BEYOND);
        DUE.is("40: another", x.told(Integer.MAX_VALUE), Due.BEYOND);
        DUE.is("40: counted, too", x.told(1), 5);
    }
}
