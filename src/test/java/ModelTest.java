import java.util.Random;

/** Runs of random calls, on the class and on the model of it; both must answer alike. */
final class ModelTest {
    private static final String[] CALLS = {"", "", "person", "ofPerson", "change", "become", "as", "motion", "ofMotion", "side", "set",
        "feed", "text", "law", "vote", "sew", "days", "loose", "live", "freezes", "firstDay", "turning", "spends", "plan", "tailor",
        "voted", "harder", "seed", "voice", "trace", "sheet", "put", "move", "healths", "judge", "image", "restore", "tell", "check",
        "count", "told"};
    private static final int[] WILD = {-1, -2, Integer.MIN_VALUE, Integer.MAX_VALUE, 41, 61, 100, 256, 512, -3};
    private static final String[] TEXTS = {"c", "c*o/2", "o-3", "c+o>9", "h/9", "c*(o<4)+1", "(h>50)*c+o%3", "9-o", "c|o", "!o*7",
        "w", "w+l", "d%3", "w*(d%7>2)", "w-l*2", "d/100+w", "!(d%5)*40", "0", "w*l", "9-w", "20-d"};

    private final Random random;
    private final CoatVotes x = new CoatVotes();
    private final Model model = new Model();
    private String pending = "";
    private int pendingUse = -1;
    private boolean tells;

    private ModelTest(long seed) {
        random = new Random(seed);
    }

    public static void main(String[] args) {
        Due due = new Due("ModelTest");
        int[] answered = new int[CALLS.length];
        int[] refused = new int[CALLS.length];
        for (int seed = 0; seed < 500; seed++) {
            new ModelTest(seed).run(due, seed, answered, refused);
        }
        for (int act = 2; act < CALLS.length; act++) {
            due.is(CALLS[act] + " was answered well, often", answered[act] > 100 ? 1 : 0, 1);
            if (act != 27 && act != 35 && act != 38) {
                due.is(CALLS[act] + " was refused, often", refused[act] > 10 ? 1 : 0, 1);
            }
        }
        due.end();
    }

    private void run(Due due, int seed, int[] answered, int[] refused) {
        int kinds = random.nextInt(3);
        tells = random.nextInt(6) == 0;
        for (int i = 0; i < 300; i++) {
            int act = kinds == 0 ? 2 + random.nextInt(39) : pick();
            long a = small(act, 0);
            int[] b = {small(act, 1), small(act, 2), small(act, 3), small(act, 4)};
            if (act == 11) {
                a = word(b);
            }
            int want = model.call(act, a, b[0], b[1], b[2], b[3]);
            int got = call(act, a, b[0], b[1], b[2], b[3]);
            if (got != want) {
                due.is("seed " + seed + " call " + i + " " + CALLS[act] + "(" + a + "," + b[0] + "," + b[1] + "," + b[2] + "," + b[3]
                    + ") of what " + pending, got, want);
                return;
            }
            due.is("", 0, 0);
            if (want <= Due.BEYOND && want >= Due.KIND) {
                refused[act]++;
            } else {
                answered[act]++;
            }
        }
    }

    /** A TEXT that was begun is fed to its end and read; else any call, those that set things up oftener. */
    private int pick() {
        if (!pending.isEmpty()) {
            return 11;
        }
        if (pendingUse >= 0) {
            return 12;
        }
        int r = random.nextInt(100);
        if (r < 6) {
            pendingUse = random.nextInt(2);
            pending = TEXTS[pendingUse == 0 ? random.nextInt(10) : 10 + random.nextInt(11)];
            return 11;
        }
        return r < 14 ? 2 : r < 20 ? 4 : r < 24 ? 7 : r < 27 ? 30 : r < 30 ? 31 : tells && r < 45 ? 37 : 2 + random.nextInt(39);
    }

    private long word(int[] b) {
        if (pending.isEmpty()) {
            String signs = random.nextInt(3) == 0 ? "coh(!+1<" : "dwl*)0|&coh!(=>-/%";
            long w = 0;
            for (int i = 0; i < 8; i++) {
                w = w << 8 | (random.nextInt(60) == 0 ? random.nextInt(256) : signs.charAt(random.nextInt(signs.length())));
            }
            b[0] = random.nextInt(8) == 0 ? random.nextInt(12) - 1 : 1 + random.nextInt(2);
            return w;
        }
        int n = Math.min(8, pending.length());
        long w = 0;
        for (int i = n - 1; i >= 0; i--) {
            w = w << 8 | pending.charAt(i);
        }
        b[0] = n;
        pending = pending.substring(n);
        return w;
    }

    private int small(int act, int place) {
        if (act == 12 && pendingUse >= 0 && place == 0) {
            int use = pendingUse;
            pendingUse = -1;
            return use;
        }
        if (random.nextInt(60) == 0) {
            return WILD[random.nextInt(WILD.length)];
        }
        boolean numbers = act == 27 || act == 13 && place > 0 || act == 28 && place == 2;
        if (numbers && random.nextInt(3) == 0) {
            return random.nextInt();
        }
        if (act == 2 || act == 5 && place == 1) {
            return random.nextInt(71);
        }
        if (act == 4 && place == 2) {
            return random.nextInt(random.nextInt(3) == 0 ? 101 : 12);
        }
        if (act == 7) {
            return random.nextInt(place == 0 ? 12 : 256);
        }
        if (act == 9 && place == 1) {
            return random.nextInt(256);
        }
        if (act == 16 || act == 17) {
            return random.nextInt(random.nextInt(8) == 0 ? 62 : 4);
        }
        if (act >= 18 && act <= 26 && act != 25) {
            return wouldBe(act, place);
        }
        if (act == 30 && place == 1) {
            return 8 * random.nextInt(5);
        }
        if (act == 30 && place == 2) {
            return random.nextInt(4) == 0 ? random.nextInt(44) - 2 : 2;
        }
        if (act == 31 && place == 2) {
            return random.nextInt(3) == 0 ? random.nextInt(200) - 50 : random.nextInt(4);
        }
        if (act == 39) {
            return random.nextInt(15);
        }
        if (act == 25 || act == 32) {
            return random.nextInt(act == 25 && place == 1 ? 2 : 4);
        }
        return random.nextInt(random.nextInt(2) == 0 ? 4 : 9);
    }

    private int wouldBe(int act, int place) {
        if (act == 23) {
            return place == 0 ? random.nextInt(66) : place == 1 ? random.nextInt(7) : random.nextInt(6) - 3;
        }
        boolean days = act == 18 || act == 24 || act == 26 || act == 22 && place == 1;
        return days ? random.nextInt(random.nextInt(2) == 0 ? 62 : 12) : random.nextInt(9);
    }

    private int call(int act, long w, int b, int c, int d, int e) {
        int a = (int) w;
        switch (act) {
            case 2: return x.person(a);
            case 3: return x.ofPerson(a, b);
            case 4: return x.change(a, b, c);
            case 5: return x.become(a, b);
            case 6: return x.as(a, b);
            case 7: return x.motion(a, b);
            case 8: return x.ofMotion(a, b);
            case 9: return x.side(a, b);
            case 10: return x.set(a, b);
            case 11: return x.feed(w, b);
            case 12: return x.text(a);
            case 13: return x.law(a, b, c, d);
            case 14: return x.vote(a);
            case 15: return x.sew(a, b);
            case 16: return x.days(a);
            case 17: return x.loose(a);
            case 18: return x.live(a);
            case 19: return x.freezes(a);
            case 20: return x.firstDay(a);
            case 21: return x.turning(a);
            case 22: return x.spends(a, b);
            case 23: return x.plan(a, b, c);
            case 24: return x.tailor(a);
            case 25: return x.voted(a, b);
            case 26: return x.harder(a);
            case 27: return x.seed(a);
            case 28: return x.voice(a, b, c);
            case 29: return x.trace(a);
            case 30: return x.sheet(a, b, c);
            case 31: return x.put(a, b, c);
            case 32: return x.move(a, b, c, d, e);
            case 33: return x.healths(a);
            case 34: return x.judge(a);
            case 35: return x.image();
            case 36: return x.restore();
            case 37: return x.tell(a);
            case 38: return x.check();
            case 39: return x.count(a);
            default: return x.told(a);
        }
    }
}
