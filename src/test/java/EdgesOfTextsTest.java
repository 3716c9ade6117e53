/** Terms 2: each sentence that names an edge of THE TAPE, of TEXTS and of what they give. */
final class EdgesOfTextsTest {
    private static final Due DUE = new Due("EdgesOfTextsTest");
    private static final String SECOND = "Terms 2";
    private static final int MIN = Due.MIN;
    private static final int MAX = Due.MAX;

    private EdgesOfTextsTest() { }

    public static void main(String[] args) {
        tape();
        chains();
        comparisons();
        numbers();
        names();
        blanks();
        open();
        closed();
        wraps();
        quotients();
        byZero();
        truth();
        faults();
        endsTooEarly();
        everyByte();
        held();
        without();
        DUE.end();
    }

    private static void reads(int use, String text) {
        DUE.is(text, Due.text(new CoatVotes(), use, text), 1);
    }

    private static void fault(int use, String text, int place) {
        DUE.is(text, Due.text(new CoatVotes(), use, text), -10 - place);
    }

    private static void gives(String text, int a, int b, int c, int due) {
        CoatVotes x = new CoatVotes();
        DUE.is("reading " + text, Due.text(x, 0, text), 1);
        DUE.is(text + " by " + a + ", " + b + ", " + c, x.law(0, a, b, c), due);
    }

    private static void tape() {
        DUE.about(SECOND, "TEXTS are read from THE TAPE (bytes, at most 50)");
        CoatVotes x = new CoatVotes();
        Due.feed(x, "1+1+1+1+1+1+1+1+1+1+1+1+1+1+1+1+1+1+1+1+1+1+1+1+1");
        DUE.is("49 bytes", x.count(10), 49);
        DUE.is("two more", x.feed(0x3131L, 2), Due.FULL);
        DUE.is("49 bytes still", x.count(10), 49);
        DUE.is("one more", x.feed('0', 1), 50);
        DUE.is("one more", x.feed('0', 1), Due.FULL);
        DUE.is("all fifty are read", x.text(1), 1);
        DUE.is("the last of them, too", x.law(1, 0, 0, 0), 34);
        DUE.is("none are left", x.count(10), 0);
        String fifty = "9-(1-(1-(1-(1-(1-1+1-1+1-1+1-1+1-1+1-1+1-1+01)))))";
        DUE.is("its bytes", fifty.length(), 50);
        gives(fifty, 0, 0, 0, 8);
        reads(0, "!!!!!1&!!!!!1&!!!!!1&!!!!!1&!!!!!1&!!!!!1&!!!!!1+1");
    }

    private static void chains() {
        DUE.about(SECOND, "T: A { | A }. A: B { & B }. .. S: P { + P, - P }. P: Q { * Q, / Q, % Q }.");
        for (char sign : "|&+-*/%".toCharArray()) {
            reads(0, "c" + sign + "o");
            reads(0, "c" + sign + "o" + sign + "h" + sign + "c");
            fault(0, "c" + sign, 2);
            fault(0, sign + "c", 0);
            fault(0, "c" + sign + sign + "o", 2);
        }
        DUE.about(SECOND, "S: P { + P, - P }. P: Q { * Q, / Q, % Q }.");
        gives("c-o-h", 50, 20, 7, 23);
        gives("c-o+h", 50, 20, 7, 37);
        gives("c/o/h", 90, 6, 5, 3);
        gives("c/o*h", 90, 8, 5, 55);
        gives("c*o/h", 9, 5, 4, 11);
        gives("c%o*h", 9, 5, 4, 16);
        gives("c%o%h", 29, 20, 5, 4);
    }

    private static void comparisons() {
        DUE.about(SECOND, "B: S, or S < S, S = S, S > S.");
        for (char sign : "<=>".toCharArray()) {
            reads(0, "c" + sign + "o");
            for (char second : "<=>".toCharArray()) {
                fault(0, "c" + sign + "o" + second + "h", 3);
                fault(0, "c" + sign + second + "h", 2);
                reads(0, "(c" + sign + "o)" + second + "h");
                reads(0, "c" + sign + "(o" + second + "h)");
                reads(0, "c" + sign + "o&c" + second + "h");
                reads(0, "c" + sign + "o|c" + second + "h");
            }
        }
    }

    private static void numbers() {
        DUE.about(SECOND, "a NUMBER of 1 to 4 digits");
        gives("0", 0, 0, 0, 0);
        gives("9", 0, 0, 0, 9);
        gives("0009", 0, 0, 0, 9);
        gives("9999-9950", 0, 0, 0, 49);
        gives("1000-999", 0, 0, 0, 1);
        gives("0000", 0, 0, 0, 0);
        fault(0, "00000", 4);
        fault(0, "12345", 4);
        fault(0, "1+12345", 6);
        fault(0, "123456", 4);
        fault(0, "12c", 2);
        fault(0, "c12", 1);
        fault(0, "/", 0);
        fault(0, ":", 0);
    }

    private static void names() {
        DUE.about(SECOND, "USES: 0 CHILL, NAMES c COLD, o OPEN, h HEALTH; .. 1 COLD, NAMES d DAY, w WINTER, l how many LAWS there are");
        for (char name : "coh".toCharArray()) {
            reads(0, "" + name);
            fault(1, "" + name, 0);
            fault(1, "1+" + name, 2);
        }
        for (char name : "dwl".toCharArray()) {
            reads(1, "" + name);
            fault(0, "" + name, 0);
            fault(0, "1+" + name, 2);
        }
        fault(0, "co", 1);
        fault(1, "wd", 1);
        CoatVotes x = Due.people(0, 0);
        Due.text(x, 1, "d*20+w*3+l");
        x.motion(0, 3);
        x.motion(0, 3);
        x.motion(0, 3);
        DUE.is("no LAW, WINTER 2, DAY 0", x.count(9), 6);
        x.vote(2);
        x.vote(0);
        x.vote(0);
        x.set(0, 9);
        DUE.is("two LAWS, WINTER 9, DAY 0", x.count(9), 29);
        x.days(3);
        DUE.is("two LAWS, WINTER 9, DAY 3", x.count(9), 89);
        Due.text(x, 0, "c*4+o*3+h");
        Due.text(x, 1, "5");
        Due.has(x, 0, 0, 0, 9, 40);
        DUE.is("COLD 5, OPEN 9, HEALTH 40", x.ofPerson(0, 9), 87);
        x.days(1);
        DUE.is("40 less 87", x.ofPerson(0, 5), 0);
    }

    private static void blanks() {
        DUE.about(SECOND, "No blanks.");
        fault(0, " c", 0);
        fault(0, "c ", 1);
        fault(0, "c +o", 1);
        fault(0, "c+ o", 2);
        fault(0, "1 2", 1);
        fault(0, "( c)", 1);
        fault(0, "c\t", 1);
        fault(0, "c\n", 1);
    }

    private static void open() {
        DUE.about(SECOND, "At most 5 of ! and ( are open at once.");
        reads(0, "!!!!!c");
        fault(0, "!!!!!!c", 5);
        reads(0, "(((((c)))))");
        fault(0, "((((((c))))))", 5);
        String[] four = {"!!!!", "((((", "!(!(", "(!(!", "!!((", "((!!"};
        for (String start : four) {
            String end = ")".repeat(start.replace("!", "").length());
            for (char fifth : "!(".toCharArray()) {
                String close = fifth == '(' ? ")" : "";
                reads(0, start + fifth + "c" + close + end);
                fault(0, start + fifth + "!c" + close + end, 5);
                fault(0, start + fifth + "(c)" + close + end, 5);
            }
        }
    }

    /** What is closed again, a ! by the end of its Q, isn't open any more. */
    private static void closed() {
        reads(0, "!c+!c+!c+!c+!c+!c+!c");
        reads(0, "(c)+(c)+(c)+(c)+(c)+(c)+(c)");
        reads(0, "(((!c+!c+!(c))))");
        fault(0, "((((!c+!c+!(c)))))", 11);
        reads(0, "((((!c)+!c)+!c)+!c)+!!!!!c");
        reads(0, "!(!(!c))&(((((1)))))&!!!!!1");
        reads(0, "((((!c)))+((((c)))))");
        fault(0, "((((!c)))+(((((c))))))", 14);
        fault(0, "((((!c+!!c))))", 8);
    }

    private static void wraps() {
        DUE.about(SECOND, "Ints that wrap");
        gives("c+o=h", MAX, 1, MIN, 1);
        gives("c-o=h", MIN, 1, MAX, 1);
        gives("c*o=h", 65536, 65536, 0, 1);
        gives("c*o=h", 65537, 65535, -1, 1);
        gives("c*o=h", MIN, -1, MIN, 1);
        gives("c/o=h", MIN, -1, MIN, 1);
        gives("c%o=h", MIN, -1, 0, 1);
        gives("0-c=h", MIN, 0, MIN, 1);
        gives("9999*9999*9999=h", 0, 0, (int) (9999L * 9999 * 9999), 1);
        gives("c+o<0", MAX, MAX, 0, 1);
        gives("c<o", MIN, MAX, 0, 1);
        gives("c>o", MAX, MIN, 0, 1);
        gives("c*o/2=h", 0, 0, 0, 1);
    }

    private static void quotients() {
        DUE.about(SECOND, "/ cut, % the rest that it leaves");
        int[][] due = {{7, 2, 3, 1}, {-7, 2, -3, -1}, {7, -2, -3, 1}, {-7, -2, 3, -1}, {1, 2, 0, 1}, {-1, 2, 0, -1}, {6, 3, 2, 0},
            {MAX, MIN, 0, MAX}, {MIN, MAX, -1, -1}, {MIN, MIN, 1, 0}, {0, 5, 0, 0}};
        for (int[] d : due) {
            gives("c/o=h", d[0], d[1], d[2], 1);
            gives("c%o=h", d[0], d[1], d[3], 1);
        }
    }

    private static void byZero() {
        DUE.about(SECOND, "both by 0 are 0");
        for (int v : new int[] {0, 1, -1, 50, MIN, MAX}) {
            gives("c/o=0", v, 0, 0, 1);
            gives("c%o=0", v, 0, 0, 1);
            gives("c/0+9", v, 0, 0, 9);
            gives("c%0+9", v, 0, 0, 9);
            gives("c/(o-o)+9", v, v, 0, 9);
        }
    }

    private static void truth() {
        DUE.about(SECOND, "| & < = > ! are 1 or 0, what is not 0 being true; all is worked out");
        int[][] pairs = {{0, 0}, {0, 5}, {5, 0}, {5, 7}, {0, -1}, {-1, 0}, {-1, -1}, {MIN, MAX}, {4, 2}, {5, 5}};
        for (int[] p : pairs) {
            gives("c|o", p[0], p[1], 0, p[0] != 0 || p[1] != 0 ? 1 : 0);
            gives("c&o", p[0], p[1], 0, p[0] != 0 && p[1] != 0 ? 1 : 0);
            gives("c<o", p[0], p[1], 0, p[0] < p[1] ? 1 : 0);
            gives("c=o", p[0], p[1], 0, p[0] == p[1] ? 1 : 0);
            gives("c>o", p[0], p[1], 0, p[0] > p[1] ? 1 : 0);
        }
        for (int v : new int[] {0, 1, 2, -1, MIN, MAX}) {
            gives("!c", v, 0, 0, v == 0 ? 1 : 0);
            gives("!!c", v, 0, 0, v == 0 ? 0 : 1);
        }
        gives("1|c/o", 5, 0, 0, 1);
        gives("0&c/o", 5, 0, 0, 0);
    }

    private static void faults() {
        DUE.about(SECOND, "FAULT: the place of the first byte with which no TEXT goes on");
        fault(0, ")", 0);
        fault(0, "()", 1);
        fault(0, "c)", 1);
        fault(0, "(c))", 3);
        fault(0, "(c", 2);
        fault(0, "(c+", 3);
        fault(0, "c!", 1);
        fault(0, "c(", 1);
        fault(0, "cc", 1);
        fault(0, "c1", 1);
        fault(0, "1c", 1);
        fault(0, "(c)(o)", 3);
        fault(0, "(c)1", 3);
        fault(0, "-1", 0);
        fault(0, "1+-1", 2);
        fault(0, "!-1", 1);
        fault(0, "x1+", 0);
        fault(0, "c+o+h+c+o+h+c+o+h+c+o+h+c+o+h+c+o+h+c+o+h+c+o+h+c)", 49);
        fault(0, "(+)+(+)+", 1);
    }

    private static void endsTooEarly() {
        DUE.about(SECOND, "FAULT: .. how many there are, if it ends too early");
        fault(0, "", 0);
        fault(1, "", 0);
        fault(0, "!", 1);
        fault(0, "(", 1);
        fault(0, "c+", 2);
        fault(0, "(c", 2);
        fault(0, "c<", 2);
        fault(0, "!!!!!", 5);
        fault(0, "(((((", 5);
        fault(0, "(((((c", 6);
        fault(0, "(((((c))))", 10);
        fault(0, "c+o+h+c+o+h+c+o+h+c+o+h+c+o+h+c+o+h+c+o+h+c+o+h+1+", 50);
        fault(0, "c+o+h+c+o+h+c+o+h+c+o+h+c+o+h+c+o+h+c+o+h+c+o+h+(1", 50);
    }

    /** With which bytes a TEXT begins, and with which it goes on behind a NAME, an operator, a comparison. */
    private static void everyByte() {
        DUE.about(SECOND, "FAULT: the place of the first byte with which no TEXT goes on");
        String[] ahead = {"", "c", "(c", "c+", "c<", "c<o", "1", "1234", "!"};
        String signs = "|&<=>+-*/%";
        String[] goesOn = {"coh!(0123456789", signs, signs + ")", "coh!(0123456789", "coh!(0123456789", "|&+-*/%", signs + "0123456789", signs,
            "coh!(0123456789"};
        for (int i = 0; i < ahead.length; i++) {
            for (int b = 0; b < 256; b++) {
                CoatVotes x = new CoatVotes();
                int place = ahead[i].length();
                boolean good = goesOn[i].indexOf(b) >= 0;
                int answer = Due.text(x, 0, ahead[i] + (char) b);
                boolean isFault = answer == -10 - place;
                DUE.is("byte " + b + " behind \"" + ahead[i] + "\" is a FAULT", isFault ? 1 : 0, good ? 0 : 1);
            }
        }
    }

    private static void held() {
        DUE.about(SECOND, "0 CHILL, ..; held within 0 to 99");
        int[][] due = {{0, 0}, {1, 1}, {98, 98}, {99, 99}, {100, 99}, {MAX, 99}, {-1, 0}, {MIN, 0}};
        for (int[] d : due) {
            gives("c", d[0], 0, 0, d[1]);
        }
        CoatVotes x = Due.people(0);
        Due.text(x, 0, "9999");
        DUE.is("CHILL by 9999", x.ofPerson(0, 9), 99);
        Due.text(x, 0, "0-1");
        DUE.is("CHILL by -1", x.ofPerson(0, 9), 0);
        x.days(1);
        DUE.is("HEALTH then", x.ofPerson(0, 5), 99);
        DUE.about(SECOND, "1 COLD, ..; held within 0 to 99");
        Due.text(x, 1, "w");
        for (int[] d : due) {
            DUE.is("w by " + d[0], x.law(1, 0, d[0], 0), d[1]);
        }
        Due.text(x, 1, "9999");
        DUE.is("COLD by 9999", x.count(9), 99);
        Due.text(x, 1, "0-1");
        DUE.is("COLD by -1", x.count(9), 0);
        x.change(0, 3, 50);
        x.days(1);
        DUE.is("1 more, as it is 0", x.ofPerson(0, 5), 51);
        Due.text(x, 1, "1000");
        Due.text(x, 0, "c-90");
        DUE.is("COLD as it is held goes into CHILL", x.ofPerson(0, 9), 9);
    }

    private static void without() {
        DUE.about(SECOND, "without a TEXT c*o/2");
        CoatVotes x = Due.people(0);
        int[][] due = {{0, 0, 0}, {1, 1, 0}, {1, 2, 1}, {3, 5, 7}, {2, 99, 99}, {3, 66, 99}, {3, 67, 99}, {99, 99, 99}, {-9, 9, 0}, {-9, -9, 40},
            {65536, 65536, 0}, {MIN, -1, 0}};
        for (int[] d : due) {
            DUE.is("by " + d[0] + ", " + d[1], x.law(0, d[0], d[1], 50), d[2]);
        }
        DUE.about(SECOND, "without a TEXT w");
        int[][] cold = {{0, 0}, {9, 9}, {99, 99}, {100, 99}, {-1, 0}, {MIN, 0}, {MAX, 99}};
        for (int[] d : cold) {
            DUE.is("by " + d[0], x.law(1, 50, d[0], 3), d[1]);
        }
        x.change(0, 2, 99);
        x.set(0, 1);
        DUE.is("CHILL by OPEN 99, WINTER 1", x.ofPerson(0, 9), 49);
        x.set(0, 9);
        DUE.is("CHILL by OPEN 99, WINTER 9", x.ofPerson(0, 9), 99);
    }
}
