/** What the tests share: an answer that is not the due one is printed and counted. */
final class Due {
    static final int LOW = -1000000000;
    static final int BEYOND = LOW - 1;
    static final int NONE = LOW - 2;
    static final int STATE = LOW - 3;
    static final int FULL = LOW - 4;
    static final int KIND = LOW - 5;

    private final String name;
    private int asked = 0;
    private int wrong = 0;

    Due(String name) {
        this.name = name;
    }

    void is(String what, long got, long want) {
        asked++;
        if (got != want) {
            wrong++;
            System.out.println(name + ": " + what + " answered " + got + ", due is " + want);
        }
    }

    void end() {
        System.out.println(name + ": " + asked + " asked, " + wrong + " wrong");
        if (wrong != 0 || asked == 0) {
            System.exit(1);
        }
    }

    /** Feeds a TEXT, eight bytes a call, and has it read. */
    static int text(CoatVotes x, int use, String text) {
        for (int i = 0; i < text.length(); i += 8) {
            int n = Math.min(8, text.length() - i);
            long word = 0;
            for (int k = 0; k < n; k++) {
                word |= (long) (text.charAt(i + k) & 255) << 8 * k;
            }
            x.feed(word, n);
        }
        return x.text(use);
    }

    static CoatVotes people(int... kms) {
        CoatVotes x = new CoatVotes();
        for (int km : kms) {
            x.person(km);
        }
        return x;
    }

    static void sheet(CoatVotes x, int sheet, int bits, int... numbers) {
        x.sheet(sheet, bits, numbers.length);
        for (int i = 0; i < numbers.length; i++) {
            x.put(sheet, i, numbers[i]);
        }
    }
}
