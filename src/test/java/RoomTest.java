import java.lang.management.ManagementFactory;
import java.lang.reflect.InvocationTargetException;
import java.lang.reflect.Method;
import java.lang.reflect.Modifier;
import java.util.ArrayList;
import java.util.Comparator;
import java.util.List;
import java.util.Random;

/** What every promise rests on: calls make no new objects, and none throws, whatever its arguments are. */
public final class RoomTest {
    private static final int[] EDGES = {Integer.MIN_VALUE, Integer.MIN_VALUE + 1, -61, -16, -3, -2, -1, 0, 1, 2, 3, 4, 5,
        7, 8, 9, 10, 15, 16, 17, 23, 24, 25, 31, 32, 59, 60, 61, 104, 112, 255, 256, 65536, Integer.MAX_VALUE};
    private static final String EIGHT = "h99;l88;a77;h66;l55;a44;h33;a99";
    private static final Checks CHECKS = new Checks("RoomTest");

    public static void main(String[] args) throws IllegalAccessException {
        CHECKS.promise(0, "the room of all calls");
        callsMakeNothing();
        nothingThrows();
        CHECKS.end();
    }

    private static TugOfWar fullObject() {
        TugOfWar x = Checks.teams(EIGHT, EIGHT, "hprhprhprhprhprhprhprhpr", "pphhrrpphhrrpphhrrpphhrr");
        for (int e = 0; e < 8; e++) {
            x.event(e % 3, 2 * e, e);
            x.seen(e, 12);
        }
        for (int s = 0; s < 4; s++) {
            x.sheet(s, s % 3, 60);
        }
        return x;
    }

    private static void everyCall(TugOfWar x) {
        x.wipe(3);
        for (int i = 0; i < 24; i++) {
            x.type(3, 'p');
        }
        x.undo(3);
        x.back();
        x.read(0);
        x.sheet(0, 1, 60);
        x.put(0, 1, 0, 5);
        x.copy(0, 0, 0, 1, 59);
        x.write(0);
        x.lose(0);
        x.sheet(0, 0, 60);
        x.event(1, 1, 1);
        x.digest();
    }

    private static TugOfWar[] fullObjects() {
        TugOfWar[] objects = new TugOfWar[20];
        for (int i = 0; i < objects.length; i++) {
            objects[i] = fullObject();
        }
        return objects;
    }

    /** Few rounds for each object, as it is used for at most 512 calls. */
    private static void everyCall(TugOfWar[] objects) {
        for (TugOfWar x : objects) {
            everyCall(x);
            everyCall(x);
        }
    }

    private static void callsMakeNothing() {
        com.sun.management.ThreadMXBean bean =
            (com.sun.management.ThreadMXBean) ManagementFactory.getThreadMXBean();
        long thread = Thread.currentThread().getId();
        everyCall(fullObjects());
        TugOfWar[] objects = fullObjects();
        long before = bean.getThreadAllocatedBytes(thread);
        everyCall(objects);
        long made = bean.getThreadAllocatedBytes(thread) - before;
        CHECKS.due("is what 40 rounds of all calls make small (" + made + " bytes)", made < 4096 ? 1 : 0, 1);
        before = bean.getThreadAllocatedBytes(thread);
        TugOfWar y = new TugOfWar();
        made = bean.getThreadAllocatedBytes(thread) - before;
        CHECKS.due("is a new object small (" + made + " bytes)", made < 40000 && y.count(0) == 0 ? 1 : 0, 1);
    }

    private static void nothingThrows() throws IllegalAccessException {
        List<Method> methods = new ArrayList<>();
        for (Method m : TugOfWar.class.getDeclaredMethods()) {
            if (Modifier.isPublic(m.getModifiers())) {
                methods.add(m);
            }
        }
        methods.sort(Comparator.comparing(Method::getName));
        Random random = new Random(38);
        for (int run = 0; run < 90; run++) {
            TugOfWar x = run % 2 == 0 ? fullObject() : new TugOfWar();
            for (int i = 0; i < 350; i++) {
                Method m = methods.get(random.nextInt(methods.size()));
                Object[] arguments = new Object[m.getParameterCount()];
                for (int a = 0; a < arguments.length; a++) {
                    arguments[a] = EDGES[random.nextInt(EDGES.length)];
                }
                CHECKS.due(m.getName() + " throws", throwsAnything(m, x, arguments), 0);
            }
        }
    }

    private static int throwsAnything(Method m, TugOfWar x, Object[] arguments) throws IllegalAccessException {
        try {
            m.invoke(x, arguments);
            return 0;
        } catch (InvocationTargetException e) {
            System.out.println(e.getCause());
            return 1;
        }
    }
}
