/** Promises 28 to 34: voices and their trace, sheets. */
final class SheetsTest {
    private static final Due DUE = new Due("SheetsTest");
    private static final int MAX = Integer.MAX_VALUE;
    private static final int MIN = Integer.MIN_VALUE;

    private SheetsTest() { }

    public static void main(String[] args) {
        voice();
        trace();
        sheet();
        put();
        move();
        moveWrong();
        healths();
        judge();
        DUE.end();
    }

    private static void says(CoatVotes x, int person, int act, int value, int... bodies) {
        String what = "voice(" + person + ", " + act + ", 7)";
        DUE.is("28: " + what, x.voice(person, act, 7), value);
        DUE.is("29: how many, " + what, x.count(12), bodies.length);
        for (int i = 0; i < bodies.length; i++) {
            DUE.is("29: trace(" + i + ") of " + what, x.trace(i), bodies[i]);
        }
        DUE.is("29: no more, " + what, x.trace(bodies.length), Due.NONE);
    }

    /** Person n is of KIND n, with m = n + 2; x is 7. */
    private static void voice() {
        CoatVotes x = Due.people(2, 13, 24, 35, 46, 57, 68);
        says(x, 0, 0, 7, 10);
        says(x, 0, 1, 14, 11, 10);
        says(x, 0, 2, 5, 12);
        says(x, 0, 3, 14 ^ 5, 13, 11, 10, 12);
        says(x, 1, 0, 8, 10);
        says(x, 1, 2, -4, 20, 12);
        says(x, 1, 3, 16 ^ -4, 13, 11, 10, 20, 12);
        says(x, 2, 0, 27, 30, 10);
        says(x, 2, 1, 54, 11, 30, 10);
        says(x, 2, 2, 3, 12);
        says(x, 2, 3, 54 ^ 3, 13, 11, 30, 10, 12);
        says(x, 3, 0, 10, 10);
        says(x, 3, 1, 20 + 4, 40, 11, 10, 12);
        says(x, 3, 3, 24 ^ 2, 13, 40, 11, 10, 12, 12);
        says(x, 4, 2, -1 ^ 4, 50, 20, 12);
        says(x, 4, 3, 22 - (22 ^ (-1 ^ 4)), 51, 11, 10, 13, 11, 10, 50, 20, 12);
        says(x, 5, 0, 36, 30, 10);
        says(x, 5, 3, (72 ^ 0) - 21, 60, 13, 11, 30, 10, 12, 30, 10);
        says(x, 6, 0, 13, 10);
        says(x, 6, 1, 28 - (1 - 8), 70, 40, 11, 10, 12);
        says(x, 6, 3, 35 ^ -1, 13, 70, 40, 11, 10, 12, 12);
        DUE.is("28: goes round", x.voice(0, 1, 0x40000001), MIN + 2);
        DUE.is("28: goes round", x.voice(0, 2, MIN), MAX - 1);
        DUE.is("28: like an error", x.voice(0, 0, Due.BEYOND), Due.BEYOND);
        DUE.is("28: but none", x.told(1), 0);
    }

    private static void trace() {
        CoatVotes x = Due.people(2);
        DUE.is("29: none yet", x.trace(0), Due.NONE);
        x.voice(0, 3, 1);
        DUE.is("28: nobody", x.voice(1, 0, 0), Due.BEYOND);
        DUE.is("28: nobody", x.voice(-1, 0, 0), Due.BEYOND);
        DUE.is("28: no act", x.voice(0, 4, 0), Due.BEYOND);
        DUE.is("28: no act", x.voice(0, -1, 0), Due.BEYOND);
        DUE.is("29: an error leaves it", x.trace(3), 12);
        DUE.is("29: none", x.trace(-1), Due.NONE);
        DUE.is("29: none", x.trace(4), Due.NONE);
        DUE.is("29: none", x.trace(MAX), Due.NONE);
        DUE.is("29: none", x.trace(MIN), Due.NONE);
    }

    private static void sheet() {
        CoatVotes x = new CoatVotes();
        DUE.is("30: 8 bits", x.sheet(0, 8, 40), 1);
        DUE.is("30: 16 bits", x.sheet(1, 16, 1), 1);
        DUE.is("30: 32 bits", x.sheet(3, 32, 0), 1);
        DUE.is("30: forty numbers", x.put(0, 39, 1), 1);
        DUE.is("30: no more", x.put(0, 40, 1), Due.BEYOND);
        DUE.is("30: none", x.put(3, 0, 1), Due.BEYOND);
        DUE.is("30: no sheet", x.sheet(4, 8, 1), Due.BEYOND);
        DUE.is("30: no sheet, ahead of STATE", x.sheet(-1, 8, -1), Due.BEYOND);
        DUE.is("30: no such bits, ahead of STATE", x.sheet(0, 24, -1), Due.BEYOND);
        DUE.is("30: no such bits", x.sheet(0, -8, 1), Due.BEYOND);
        DUE.is("30: below 0", x.sheet(0, 8, -1), Due.STATE);
        DUE.is("30: below 0", x.sheet(0, 32, MIN), Due.STATE);
        DUE.is("30: too many", x.sheet(0, 8, 41), Due.BEYOND);
        DUE.is("30: an error leaves it", x.put(0, 39, 0), 1);
        DUE.is("30: missing", x.sheet(0, 0, -1), 1);
        DUE.is("30: is missing", x.put(0, 0, 0), Due.NONE);
        DUE.is("30: missing", x.sheet(0, 0, 99), 1);
        CoatVotes y = Due.people(0, 0);
        Due.sheet(y, 2, 8, 5, 6);
        y.sheet(2, 8, 2);
        DUE.is("30: all 0", y.judge(2), -1);
    }

    private static void put() {
        CoatVotes x = Due.people(0, 0);
        x.sheet(0, 8, 2);
        x.sheet(1, 16, 2);
        x.sheet(2, 32, 2);
        int[] due = {1, 1, 0};
        for (int sheet = 0; sheet < 3; sheet++) {
            DUE.is("31: put", x.put(sheet, 0, 1), 1);
            DUE.is("31: put", x.put(sheet, 1, 1 << 8 | 1), 1);
            x.change(0, 2, 1);
            x.change(1, 2, 1);
            DUE.is("31: lowest 8 bits", x.judge(sheet), sheet == 0 ? -1 : 1);
            x.put(sheet, 1, 1 << 16 | 1);
            DUE.is("31: lowest 16 bits", x.judge(sheet), due[sheet] == 1 ? -1 : 1);
            x.put(sheet, 1, 1);
            DUE.is("31: all bits", x.judge(sheet), -1);
            DUE.is("31: no number", x.put(sheet, 2, 0), Due.BEYOND);
            DUE.is("31: no number", x.put(sheet, -1, 0), Due.BEYOND);
        }
        DUE.is("31: missing, ahead of no number", x.put(3, -1, 0), Due.NONE);
        DUE.is("31: no sheet", x.put(4, 0, 0), Due.BEYOND);
        DUE.is("31: no sheet", x.put(MIN, MAX, 0), Due.BEYOND);
    }

    /** The numbers of a SHEET, told by judging. */
    private static void holds(CoatVotes x, int sheet, int... numbers) {
        for (int p = 0; p < numbers.length; p++) {
            x.change(p, 2, numbers[p]);
        }
        DUE.is("32: the numbers of sheet " + sheet, x.judge(sheet), -1);
    }

    private static void move() {
        CoatVotes x = Due.people(0, 0, 0, 0, 0);
        Due.sheet(x, 0, 8, 1, 2, 3, 4, 5);
        Due.sheet(x, 1, 8, 6, 7, 8, 9, 10);
        DUE.is("32: three", x.move(0, 2, 1, 0, 3), 3);
        holds(x, 1, 3, 4, 5, 9, 10);
        holds(x, 0, 1, 2, 3, 4, 5);
        DUE.is("32: up", x.move(0, 0, 0, 1, 4), 4);
        holds(x, 0, 1, 1, 2, 3, 4);
        DUE.is("32: down", x.move(0, 2, 0, 0, 3), 3);
        holds(x, 0, 2, 3, 4, 3, 4);
        DUE.is("32: all", x.move(1, 0, 0, 0, 5), 5);
        holds(x, 0, 3, 4, 5, 9, 10);
        DUE.is("32: none, at the end", x.move(0, 5, 1, 5, 0), 0);
        holds(x, 0, 3, 4, 5, 9, 10);
    }

    private static void moveWrong() {
        CoatVotes x = Due.people(0);
        Due.sheet(x, 0, 8, 1, 2);
        Due.sheet(x, 1, 16, 1, 2);
        Due.sheet(x, 2, 8, 1, 2, 3);
        DUE.is("32: no sheet", x.move(4, 0, 0, 0, 0), Due.BEYOND);
        DUE.is("32: no sheet, ahead of missing", x.move(3, 0, -1, 0, 0), Due.BEYOND);
        DUE.is("32: missing", x.move(3, 0, 0, 0, 0), Due.NONE);
        DUE.is("32: missing, ahead of no numbers", x.move(0, -1, 3, 0, 0), Due.NONE);
        DUE.is("32: unlike, ahead of no numbers", x.move(0, 0, 1, 0, -1), Due.KIND);
        int[][] wrong = {{0, 0, -1}, {-1, 0, 1}, {0, -1, 1}, {1, 0, 2}, {0, 2, 2}, {0, 0, 3}, {MAX, 0, 1}, {0, MAX, 1}, {0, 0, MAX},
            {1, 0, MAX}, {MIN, MIN, MIN}, {3, 0, 0}, {0, 4, 0}};
        for (int[] w : wrong) {
            DUE.is("32: move(0, " + w[0] + ", 2, " + w[1] + ", " + w[2] + ")", x.move(0, w[0], 2, w[1], w[2]), Due.BEYOND);
        }
        DUE.is("32: told", x.told(5), 1);
    }

    private static void healths() {
        CoatVotes x = Due.people(0, 0, 0);
        Due.sheet(x, 0, 8, 5, 0, 99, 7);
        DUE.is("33: as many as there are", x.healths(0), 3);
        int[] due = {5, 0, 99};
        for (int p = 0; p < 3; p++) {
            DUE.is("33: health", x.ofPerson(p, 5), due[p]);
        }
        Due.sheet(x, 1, 32, 50, 100, 1);
        DUE.is("33: up to 100", x.healths(1), 1);
        DUE.is("33: health", x.ofPerson(0, 5), 50);
        DUE.is("33: stays", x.ofPerson(1, 5), 0);
        DUE.is("33: stays", x.ofPerson(2, 5), 99);
        Due.sheet(x, 1, 32, 1, 2, -1);
        DUE.is("33: up to -1", x.healths(1), 2);
        Due.sheet(x, 1, 8, 200, 2);
        DUE.is("33: none", x.healths(1), 0);
        Due.sheet(x, 1, 16);
        DUE.is("33: an empty sheet", x.healths(1), 0);
        DUE.is("33: missing", x.healths(2), Due.NONE);
        DUE.is("33: no sheet", x.healths(4), Due.BEYOND);
        DUE.is("33: no sheet", x.healths(-1), Due.BEYOND);
        DUE.is("33: nobody", none(33), 0);
        DUE.is("33: no errors but these", x.told(1) + x.told(2), 2 + 1);
    }

    private static int none(int promise) {
        CoatVotes x = new CoatVotes();
        Due.sheet(x, 0, 8, 1, 2);
        return promise == 33 ? x.healths(0) : x.judge(0);
    }

    private static void judge() {
        CoatVotes x = Due.people(0, 0, 0);
        x.change(0, 2, 4);
        x.change(2, 2, 99);
        Due.sheet(x, 0, 8, 4, 0, 99);
        DUE.is("34: all are", x.judge(0), -1);
        Due.sheet(x, 0, 16, 4, 1, 98);
        DUE.is("34: the second isn't", x.judge(0), 1);
        Due.sheet(x, 0, 16, 5, 0, 99);
        DUE.is("34: the first isn't", x.judge(0), 0);
        Due.sheet(x, 0, 16, 4, 0);
        DUE.is("34: the third lacks", x.judge(0), 2);
        Due.sheet(x, 0, 16, 4, 0, 99, 0);
        DUE.is("34: the fourth is too many", x.judge(0), 3);
        Due.sheet(x, 0, 16);
        DUE.is("34: all lack", x.judge(0), 0);
        DUE.is("34: missing", x.judge(1), Due.NONE);
        DUE.is("34: no sheet", x.judge(4), Due.BEYOND);
        DUE.is("34: no sheet", x.judge(-1), Due.BEYOND);
        DUE.is("34: nobody, but a number", none(34), 0);
        CoatVotes y = new CoatVotes();
        y.sheet(0, 8, 0);
        DUE.is("34: nobody and no number", y.judge(0), -1);
    }
}
