import java.lang.management.ManagementFactory;
import java.lang.reflect.Method;
import java.lang.reflect.Modifier;
import java.util.ArrayList;
import java.util.Comparator;
import java.util.List;
import java.util.Random;

/** The face is the document's; no call throws, whatever it is given; and no call makes objects. */
final class SafetyTest {
    private static final String FACE = "as(int,int) become(int,int) change(int,int,int) check() count(int) days(int) feed(long,int) "
        + "firstDay(int) freezes(int) harder(int) healths(int) image() judge(int) law(int,int,int,int) live(int) loose(int) motion(int,int) "
        + "move(int,int,int,int,int) ofMotion(int,int) ofPerson(int,int) person(int) plan(int,int,int) put(int,int,int) restore() seed(int) "
        + "set(int,int) sew(int,int) sheet(int,int,int) side(int,int) spends(int,int) tailor(int) tell(int) text(int) told(int) trace(int) "
        + "turning(int) voice(int,int,int) vote(int) voted(int,int) ";
    private static final int[] EDGES = {Integer.MIN_VALUE, Integer.MIN_VALUE + 1, -1000000000, -256, -41, -3, -2, -1, 0, 1, 2, 3, 4, 5, 6,
        7, 8, 9, 10, 16, 20, 31, 32, 39, 40, 41, 59, 60, 61, 63, 69, 70, 99, 100, 127, 255, 256, 65535, 1 << 30, Integer.MAX_VALUE - 1,
        Integer.MAX_VALUE};

    private SafetyTest() { }

    public static void main(String[] args) throws ReflectiveOperationException {
        Due due = new Due("SafetyTest");
        List<Method> face = new ArrayList<>();
        for (Method m : CoatVotes.class.getDeclaredMethods()) {
            if (!Modifier.isPrivate(m.getModifiers())) {
                face.add(m);
            }
        }
        face.sort(Comparator.comparing(Method::getName));
        StringBuilder names = new StringBuilder();
        for (Method m : face) {
            due.is("an int of " + m.getName(), m.getReturnType() == int.class ? 1 : 0, 1);
            names.append(m.toString().replaceAll(".*CoatVotes\\.", "")).append(' ');
        }
        due.is("the face: " + names, names.toString().equals(FACE) ? 1 : 0, 1);
        due.is("no public constants", CoatVotes.class.getFields().length, 0);
        due.is("one constructor", CoatVotes.class.getConstructors().length, 1);
        wild(due, face);
        due.is("bytes that 400 calls make, cut by 4096", bytesMade() >> 12, 0);
        due.end();
    }

    private static void wild(Due due, List<Method> face) throws ReflectiveOperationException {
        Random random = new Random(7);
        for (int run = 0; run < 404; run++) {
            CoatVotes x = new CoatVotes();
            // Behind its 512th call an object may answer anything, but not throw.
            for (int i = 0; i < (run < 400 ? 512 : 20000); i++) {
                Method m = face.get(random.nextInt(face.size()));
                Object[] values = new Object[m.getParameterCount()];
                for (int k = 0; k < values.length; k++) {
                    int v = random.nextInt(3) == 0 ? EDGES[random.nextInt(EDGES.length)] : random.nextInt(10);
                    values[k] = m.getParameterTypes()[k] == long.class ? (Object) random.nextLong() : (Object) v;
                }
                m.invoke(x, values);
                due.is("", 0, 0);
            }
        }
    }

    private static long bytesMade() {
        CoatVotes x = Due.people(0, 13, 24, 35, 46, 57, 68, 9);
        Due.text(x, 0, "c+o*(h<50)");
        Due.sheet(x, 0, 8, 1, 1);
        x.motion(1, 85);
        x.motion(2, 42);
        x.motion(3, 170);
        com.sun.management.ThreadMXBean threads = (com.sun.management.ThreadMXBean) ManagementFactory.getThreadMXBean();
        long id = Thread.currentThread().getId();
        threads.getThreadAllocatedBytes(id);
        long ahead = threads.getThreadAllocatedBytes(id);
        for (int i = 0; i < 25; i++) {
            x.plan(7, 5, -1);
            x.tailor(60);
            x.harder(60);
            x.firstDay(0);
            x.voted(0, 0);
            x.voice(5, 3, 1);
            x.image();
            x.loose(5);
            x.restore();
            x.tell(1);
            x.check();
            x.live(60);
            x.spends(0, 60);
            x.feed(0x312B63L, 3);
            x.text(0);
            x.move(0, 0, 0, 1, 1);
        }
        return threads.getThreadAllocatedBytes(id) - ahead;
    }
}
