import java.lang.management.ManagementFactory;
import java.lang.reflect.InvocationTargetException;
import java.lang.reflect.Method;
import java.lang.reflect.Modifier;
import java.util.ArrayList;
import java.util.Comparator;
import java.util.List;
import java.util.Random;

/** Calls with any arguments in any state: none throws, none takes long, little is made. */
public final class WildTest {
    private static final Check check = new Check("WildTest");
    private static final int[] ODD = {0, 1, 2, 3, 4, 5, 6, 7, 8, 9, 10, 11, -1, -2, -3, 15, 16, 31, 32, 63, 64, 119,
        120, 121, 239, 240, 241, 599, 600, 601, 1999, 2000, 2001, 1 << 28, 1 << 29, 1 << 30, Integer.MIN_VALUE,
        Integer.MIN_VALUE + 1, Integer.MAX_VALUE, Integer.MAX_VALUE - 1, -240, -120, -1000, -1000000000};

    public static void main(String[] args) throws ReflectiveOperationException {
        List<Method> methods = new ArrayList<>();
        for (Method method : RestoreDesk.class.getDeclaredMethods()) {
            if (Modifier.isPublic(method.getModifiers())) {
                methods.add(method);
            }
        }
        methods.sort(Comparator.comparing(Method::getName));
        for (int seed = 0; seed < 300; seed++) {
            wildRun(new Random(seed), methods);
        }
        wildTexts();
        room();
        check.end();
    }

    private static void wildRun(Random random, List<Method> methods) throws ReflectiveOperationException {
        RestoreDesk desk = new RestoreDesk();
        for (int n = 0; n < 512; n++) {
            if (random.nextInt(20) == 0) {
                Check.put(desk, SlowTexts.any(random));
            }
            Method method = methods.get(random.nextInt(methods.size()));
            Object[] arguments = new Object[method.getParameterCount()];
            for (int k = 0; k < arguments.length; k++) {
                arguments[k] = method.getParameterTypes()[k] == boolean.class ? (Object) random.nextBoolean()
                    : (Object) (random.nextInt(8) == 0 ? random.nextInt() : ODD[random.nextInt(random.nextBoolean() ? 8 : ODD.length)]);
            }
            try {
                method.invoke(desk, arguments);
            } catch (InvocationTargetException thrown) {
                check.due(method.getName() + " threw " + thrown.getCause(), 1, 0);
            }
        }
        check.due("bytes on the tape", desk.count(8) >= 0 && desk.count(8) <= 2000, true);
    }

    private static void wildTexts() {
        Random random = new Random(7);
        for (int n = 0; n < 500; n++) {
            RestoreDesk desk = new RestoreDesk();
            for (int k = random.nextInt(100); k >= 0; k--) {
                desk.feed(random.nextInt(), random.nextInt(), random.nextInt(), random.nextInt(), random.nextInt());
            }
            int fault = desk.read();
            check.due("a text of any bytes", fault == 0 || fault == 1 || fault == 2 || fault == 5, true);
        }
        RestoreDesk desk = new RestoreDesk();
        check.due("2000 brackets", Check.read(desk, "mark " + "(".repeat(1995)), 2);
        check.due("2000 letters", Check.read(desk, "a".repeat(2000)), 1);
        check.due("2000 digits", Check.read(desk, "mark " + "1".repeat(1995)), 1);
        check.due("where", desk.place(), 5);
    }

    /** All calls of a run live in one room, so a call that makes much is seen here. */
    private static void room() {
        com.sun.management.ThreadMXBean bean = (com.sun.management.ThreadMXBean) ManagementFactory.getThreadMXBean();
        long self = Thread.currentThread().getId();
        long first = bean.getThreadAllocatedBytes(self);
        RestoreDesk desk = new RestoreDesk();
        long second = bean.getThreadAllocatedBytes(self);
        check.due("a new object is small: " + (second - first), second - first < 60000, true);
        Check.read(desk, "pages 8; piece 2; copy; do 8; take 0 i; end; close 0; do 99; write i i; add i % 8 1; end;");
        second = bean.getThreadAllocatedBytes(self);
        for (int n = 0; n < 60; n++) {
            desk.reach(0);
            desk.hurts(0, n);
            desk.spare();
            desk.named(0, 0, n, 0);
            desk.hold(n % 3);
            desk.again(n % 3);
            desk.feed(0x66696c6c, 0x3b202020, 0x20202020, 0x20202020, 0x20202020);
            desk.best(0, n);
        }
        for (int n = 0; n < 30; n++) {
            desk.read();
            desk.feed(0x66696c6c, 0x3b202020, 0x20202020, 0x20202020, 0x20202020);
        }
        long third = bean.getThreadAllocatedBytes(self);
        check.due("calls make little: " + (third - second), third - second < 60000, true);
    }
}
