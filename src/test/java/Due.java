import java.lang.reflect.Method;

/** What the tests share: an answer that is not the due one is printed and counted. */
final class Due {
    static final int LOW = -1000000000;
    static final int BEYOND = LOW - 1;
    static final int NONE = LOW - 2;
    static final int STATE = LOW - 3;
    static final int FULL = LOW - 4;
    static final int KIND = LOW - 5;
    static final int MIN = Integer.MIN_VALUE;
    static final int MAX = Integer.MAX_VALUE;

    private final String name;
    private String sentence = "";
    private int asked = 0;
    private int wrong = 0;

    Due(String name) {
        this.name = name;
    }

    /** Which promise or which of the Terms the next questions belong to, and its sentence. */
    void about(String where, String words) {
        sentence = where + " \"" + words + "\": ";
    }

    void is(String what, long got, long want) {
        asked++;
        if (got != want) {
            wrong++;
            System.out.println(name + ": " + sentence + what + " answered " + got + ", due is " + want);
        }
    }

    void end() {
        System.out.println(name + ": " + asked + " asked, " + wrong + " wrong");
        if (wrong != 0 || asked == 0) {
            System.exit(1);
        }
    }

    /** Feeds a TEXT, eight bytes a call, and has it read. */
    static int text(CoatVotes x, int use, String text) {
        feed(x, text);
        return x.text(use);
    }

    static void feed(CoatVotes x, String text) {
        for (int i = 0; i < text.length(); i += 8) {
            int n = Math.min(8, text.length() - i);
            long word = 0;
            for (int k = 0; k < n; k++) {
                word |= (long) (text.charAt(i + k) & 255) << 8 * k;
            }
            x.feed(word, n);
        }
    }

    static CoatVotes people(int... kms) {
        CoatVotes x = new CoatVotes();
        for (int km : kms) {
            x.person(km);
        }
        return x;
    }

    /** HORN, BRASS, OPEN, HEALTH of somebody. */
    static void has(CoatVotes x, int person, int horn, int brass, int open, int health) {
        x.change(person, 0, horn);
        x.change(person, 1, brass);
        x.change(person, 2, open);
        x.change(person, 3, health);
    }

    static void sheet(CoatVotes x, int sheet, int bits, int... numbers) {
        x.sheet(sheet, bits, numbers.length);
        for (int i = 0; i < numbers.length; i++) {
            x.put(sheet, i, numbers[i]);
        }
    }

    /** A call as it is written: its name, and numbers in round brackets, hexadecimal ones, MIN and MAX among them. */
    static int call(CoatVotes x, String written) throws ReflectiveOperationException {
        String name = written.substring(0, written.indexOf('('));
        String inside = written.substring(name.length() + 1, written.length() - 1);
        String[] parts = inside.isEmpty() ? new String[0] : inside.split(", ");
        for (Method m : CoatVotes.class.getDeclaredMethods()) {
            if (m.getName().equals(name) && m.getParameterCount() == parts.length) {
                Object[] values = new Object[parts.length];
                for (int i = 0; i < parts.length; i++) {
                    long v = parts[i].equals("MIN") ? MIN : parts[i].equals("MAX") ? MAX : Long.decode(parts[i].replace("L", ""));
                    values[i] = m.getParameterTypes()[i] == long.class ? (Object) v : (Object) (int) v;
                }
                return (int) m.invoke(x, values);
            }
        }
        throw new NoSuchMethodException(written);
    }
}
