/** Promises 11 to 13: what is fed, how TEXTS are read, what they give. */
final class TextsTest {
    private static final Due DUE = new Due("TextsTest");

    private TextsTest() { }

    public static void main(String[] args) {
        feed();
        reads();
        faults();
        replaces();
        values();
        held();
        DUE.end();
    }

    private static void feed() {
        CoatVotes x = new CoatVotes();
        DUE.is("11: none", x.feed(0, 0), Due.BEYOND);
        DUE.is("11: nine", x.feed(0, 9), Due.BEYOND);
        DUE.is("11: wild", x.feed(Long.MIN_VALUE, Integer.MIN_VALUE), Due.BEYOND);
        for (int i = 1; i <= 6; i++) {
            DUE.is("11: eight more", x.feed(0x3131313131313131L, 8), 8 * i);
        }
        DUE.is("11: full", x.feed(0, 3), Due.FULL);
        DUE.is("11: beyond ahead of full", x.feed(0, 9), Due.BEYOND);
        DUE.is("11: up to 50", x.feed(0, 2), 50);
        DUE.is("11: full", x.feed(0, 1), Due.FULL);
        DUE.is("11: on the tape", x.count(10), 50);
        CoatVotes y = new CoatVotes();
        y.feed(0x99322B3163L | 0x7700000000000000L, 1);
        y.feed(0x322BL, 2);
        DUE.is("11: the lowest bytes, the lowest first", y.text(0), 1);
        DUE.is("11: c+2", y.law(0, 5, 0, 0), 7);
        y.feed(0xFFL << 56 | 0x31313131313131L, 8);
        DUE.is("11: the eighth byte", y.text(0), -14);
    }

    private static void ok(int use, String text) {
        DUE.is("12: " + text, Due.text(new CoatVotes(), use, text), 1);
    }

    private static void fault(int use, String text, int fault) {
        DUE.is("12: " + text, Due.text(new CoatVotes(), use, text), -10 - fault);
    }

    private static void reads() {
        ok(0, "c");
        ok(0, "o|h&c<0+1");
        ok(1, "d*w/l%9999-0000+7");
        ok(0, "!!!!!c");
        ok(0, "(((((c)))))");
        ok(0, "!(!(!c))&(((((1)))))&!!!!!1");
        ok(0, "(1<2)<(2>3)");
        ok(0, "1<2|2=3&4>5");
        ok(0, "c+o+h+c+o+h+c+o+h+c+o+h+c+o+h+c+o+h+c+o+h+c+o+h+1");
        ok(0, "1|2&3<4+5*(1|2&3<4+5*(1|2&3<4+5*(1|2&3<4+5*6)))+1");
    }

    private static void faults() {
        fault(0, "", 0);
        for (int i = 0; i < 3; i++) {
            fault(0, "dwl".substring(i, i + 1), 0);
            fault(1, "coh".substring(i, i + 1), 0);
            ok(0, "coh".substring(i, i + 1));
            ok(1, "dwl".substring(i, i + 1));
        }
        fault(1, "l+o", 2);
        fault(0, "c+", 2);
        fault(0, "(c", 2);
        fault(0, "(c))", 3);
        fault(0, "c)", 1);
        fault(0, ")", 0);
        fault(0, "()", 1);
        fault(0, "12345", 4);
        fault(0, "1 ", 1);
        fault(0, " 1", 0);
        fault(0, "1c", 1);
        fault(0, "c1", 1);
        fault(0, "cc", 1);
        fault(0, "-1", 0);
        fault(0, "1--1", 2);
        fault(0, "1||1", 2);
        fault(0, "1<2<3", 3);
        fault(0, "1=2>3", 3);
        fault(0, "(1<2=3)", 4);
        fault(0, "c!", 1);
        fault(0, "c(1)", 1);
        fault(0, "!", 1);
        fault(0, "!!!!!!c", 5);
        fault(0, "((((((c", 5);
        fault(0, "!(!(!(c", 5);
        fault(0, "!!!!!", 5);
        fault(0, "!!!!!(", 5);
        fault(0, "((1)+((((!", 9);
        fault(0, "c\u00ff", 1);
        fault(0, "C", 0);
        fault(0, "c\u0000", 1);
        fault(0, "c+o+h+c+o+h+c+o+h+c+o+h+c+o+h+c+o+h+c+o+h+c+o+h+1+", 50);
    }

    private static void replaces() {
        CoatVotes x = new CoatVotes();
        x.feed('7', 1);
        DUE.is("12: no use", x.text(2), Due.BEYOND);
        DUE.is("12: no use", x.text(-1), Due.BEYOND);
        DUE.is("12: the tape stays", x.count(10), 1);
        DUE.is("12: read", x.text(1), 1);
        DUE.is("12: the tape is empty", x.count(10), 0);
        DUE.is("12: cold", x.count(9), 7);
        DUE.is("12: fault", Due.text(x, 1, "8+"), -12);
        DUE.is("12: the tape is empty", x.count(10), 0);
        DUE.is("12: the one ahead stays", x.count(9), 7);
        DUE.is("12: the other use has none", x.law(0, 4, 4, 0), 8);
        DUE.is("12: in its place", Due.text(x, 1, "w*3"), 1);
        DUE.is("12: cold", x.count(9), 6);
        DUE.is("12: a fault is no error", x.told(1) + x.told(2) + x.told(3) + x.told(4) + x.told(5), 2);
    }

    private static void gives(String text, int a, int b, int c, int due) {
        CoatVotes x = new CoatVotes();
        DUE.is("13: reads " + text, Due.text(x, 0, text), 1);
        DUE.is("13: " + text + " by " + a + ", " + b + ", " + c, x.law(0, a, b, c), due);
    }

    private static void values() {
        gives("c-o-h", 50, 20, 7, 23);
        gives("c*o/h", 5, 5, 2, 12);
        gives("c/o*h", 5, 2, 3, 6);
        gives("c%o*h", 17, 5, 3, 6);
        gives("c+o*h", 1, 2, 3, 7);
        gives("(c+o)*h", 1, 2, 3, 9);
        gives("c/0+9", 5, 0, 0, 9);
        gives("c%0+9", 5, 0, 0, 9);
        gives("c/o", Integer.MIN_VALUE, -1, 0, 0);
        gives("c%o+3", Integer.MIN_VALUE, -1, 0, 3);
        gives("0-c/o", -7, 2, 0, 3);
        gives("0-c%o", -7, 4, 0, 3);
        gives("c%o", 7, -4, 0, 3);
        gives("c+o=h", Integer.MAX_VALUE, 1, Integer.MIN_VALUE, 1);
        gives("c*o=h", 65536, 65536, 0, 1);
        gives("c<o", -1, 0, 0, 1);
        gives("c<o", 0, 0, 0, 0);
        gives("c>o", 0, -1, 0, 1);
        gives("c>o", 3, 3, 0, 0);
        gives("c=o", 3, 3, 0, 1);
        gives("c=o", 3, 4, 0, 0);
        gives("c&o", 2, -1, 0, 1);
        gives("c&o", 2, 0, 0, 0);
        gives("c|o", 0, 8, 0, 1);
        gives("c|o", 0, 0, 0, 0);
        gives("c|o&h", 5, 0, 0, 1);
        gives("(c|o)&h", 5, 0, 0, 0);
        gives("c&o<h", 1, 5, 6, 1);
        gives("c<o+h", 3, 2, 2, 1);
        gives("!c", 0, 0, 0, 1);
        gives("!c", 7, 0, 0, 0);
        gives("!!c", 7, 0, 0, 1);
        gives("!c*9", 0, 0, 0, 9);
        gives("!c+o", 4, 6, 0, 6);
        gives("!(c+o)", -4, 4, 0, 1);
        gives("0012", 0, 0, 0, 12);
        gives("9999/101", 0, 0, 0, 99);
        gives("1|2&3<4+5*(1|2&3<4+5*(1|2&3<4+5*(1|2&3<4+5*6)))+1", 0, 0, 0, 1);
    }

    private static void held() {
        gives("c", 100, 0, 0, 99);
        gives("c", -1, 0, 0, 0);
        gives("c-1", Integer.MIN_VALUE, 0, 0, 99);
        CoatVotes x = new CoatVotes();
        DUE.is("13: without a text", x.law(0, 7, 5, 99), 17);
        DUE.is("13: without a text, cut", x.law(0, -1, 1, 0), 0);
        DUE.is("13: without a text, held", x.law(0, 99, 99, 0), 99);
        DUE.is("13: without a text, held", x.law(0, -99, 99, 0), 0);
        DUE.is("13: without a text, wraps", x.law(0, 65536, 65536, 0), 0);
        DUE.is("13: without a text", x.law(1, 1, 42, 3), 42);
        DUE.is("13: without a text, held", x.law(1, 1, 142, 3), 99);
        DUE.is("13: without a text, held", x.law(1, 1, -1, 3), 0);
        DUE.is("13: no use", x.law(2, 0, 0, 0), Due.BEYOND);
        DUE.is("13: no use", x.law(-1, 0, 0, 0), Due.BEYOND);
        Due.text(x, 1, "d*9+w*3+l");
        DUE.is("13: names in their order", x.law(1, 2, 5, 7), 40);
        Due.text(x, 0, "c*9+o*3+h");
        DUE.is("13: names in their order", x.law(0, 2, 5, 7), 40);
    }
}
