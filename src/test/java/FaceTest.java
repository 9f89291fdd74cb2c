import java.lang.management.ManagementFactory;
import java.lang.reflect.Constructor;
import java.lang.reflect.Field;
import java.lang.reflect.Method;
import java.lang.reflect.Modifier;
import java.util.Arrays;
import java.util.TreeSet;

/** The face is the document's and no more, no argument makes the machine throw, and a run keeps to its room. */
public final class FaceTest {
    private static final String[] FACE = {
        "int row(int,int,int)", "int set(int,int,long)", "int copy(int,int,int,int,int)", "long element(int,int)",
        "int cut(int,int)", "int holds(int)", "int says(int,int)", "long side(int,int)", "int field(int)", "int fault()",
        "int size(int,int)", "int soil(int,int)", "int place(int,int)", "int heir(int)", "int worths(int,int,int)",
        "int fond(int,boolean)", "int heirOf(int,int)", "int worth(int,long)", "int owner(int)", "int own(long,int)",
        "int lay(int,int,int)", "int owners(int)", "long piece(int)", "int hedge()", "int faulty()", "int whose()",
        "int parts(long)", "int two(int)", "int three(int)", "int choose(int,int,int)", "int envies(int)",
        "int evens(int)", "int better()", "int mend(int)", "int fits(int,int)", "int old(int)", "long sure(int,int)",
        "int judge(int)", "int act(int,int,int)", "int trace(int)", "int image()", "int restore()", "int status(int)"};

    private static final int[] NUMBERS = {0, 1, 2, 3, 5, 8, 9, 16, 63, 64, 100, 101, 1100, 2213, 6888, 7000, 10000, -1, -2, -7,
        Integer.MIN_VALUE, Integer.MIN_VALUE + 1, Integer.MAX_VALUE, Integer.MAX_VALUE - 1, 1 << 16, 1 << 30};

    private static String signature(Method m) {
        StringBuilder s = new StringBuilder(m.getReturnType() + " " + m.getName() + "(");
        String comma = "";
        for (Class<?> type : m.getParameterTypes()) {
            s.append(comma).append(type);
            comma = ",";
        }
        return s.append(')').toString();
    }

    private static void face() {
        Class<?> c = BrothersField.class;
        TreeSet<String> face = new TreeSet<>(Arrays.asList(FACE));
        TreeSet<String> found = new TreeSet<>();
        TreeSet<String> names = new TreeSet<>();
        for (Method m : c.getDeclaredMethods()) {
            if (!Modifier.isPrivate(m.getModifiers())) {
                found.add(signature(m));
                names.add(m.getName());
                Due.is(m + " is public and of the object", m.getModifiers(), Modifier.PUBLIC);
            }
        }
        Due.is("the face is as written: " + found, found.equals(face) ? 1 : 0, 1);
        for (Method m : c.getDeclaredMethods()) {
            Due.is(m + " has a name of its own", Modifier.isPrivate(m.getModifiers()) && names.contains(m.getName()) ? 1 : 0, 0);
        }
        for (Field f : c.getDeclaredFields()) {
            int wanted = f.getName().equals("NONE") ? Modifier.PUBLIC | Modifier.STATIC | Modifier.FINAL : f.getModifiers() | Modifier.PRIVATE;
            Due.is(f + " is as it may be", f.getModifiers(), wanted);
        }
        Constructor<?>[] made = c.getDeclaredConstructors();
        Due.is("constructors", made.length, 1);
        Due.is("it takes", made[0].getParameterCount(), 0);
        Due.is("it is public", made[0].getModifiers(), Modifier.PUBLIC);
        Due.is("class", c.getModifiers(), Modifier.PUBLIC | Modifier.FINAL);
        for (Class<?> inner : c.getDeclaredClasses()) {
            int open = inner.getModifiers() & (Modifier.PUBLIC | Modifier.PROTECTED);
            Due.is(inner + " stands inside", open == 0 && Modifier.isStatic(inner.getModifiers()) ? 1 : 0, 1);
        }
    }

    private static Object argument(Class<?> type, int number) {
        if (type == boolean.class) {
            return number % 2 == 0;
        }
        if (type == long.class) {
            return number == 100 ? -1L : number == 101 ? 1L << 63 : (Object) (long) number;
        }
        return number;
    }

    private static void prepare(BrothersField x, int state) {
        if (state == 0) {
            return;
        }
        x.size(state == 1 ? 8 : 3, state == 1 ? 8 : 2);
        for (int p = 0; p < state + 1; p++) {
            x.heir(1 + p);
            x.own(7L << 3 * p % 6, p);
        }
        for (int kind = 0; kind < 7; kind++) {
            x.cut(kind, 1000 * kind + 213);
        }
        x.row(state, state, 100);
        x.place(1, 5);
        x.place(2, 5);
        x.image();
    }

    /** Every call with every mix of the numbers above in two of its places, in three states. */
    private static void nothingThrown() {
        int thrown = 0;
        for (int state = 0; state < 3; state++) {
            for (Method m : BrothersField.class.getDeclaredMethods()) {
                if (Modifier.isPublic(m.getModifiers())) {
                    thrown += thrownBy(m, state);
                }
            }
        }
        Due.is("calls in which something was thrown", thrown, 0);
    }

    private static int thrownBy(Method m, int state) {
        int thrown = 0;
        BrothersField x = new BrothersField();
        Class<?>[] types = m.getParameterTypes();
        for (int i = 0; i < NUMBERS.length; i++) {
            for (int j = 0; j < NUMBERS.length; j++) {
                if (j % 8 == 0) {
                    x = new BrothersField();
                    prepare(x, state);
                }
                Object[] arguments = new Object[types.length];
                for (int k = 0; k < types.length; k++) {
                    int of = k == 0 ? i : k == 1 ? j : (i * 7 + j * 3 + k) % NUMBERS.length;
                    arguments[k] = argument(types[k], NUMBERS[of]);
                }
                try {
                    m.invoke(x, arguments);
                } catch (ReflectiveOperationException e) {
                    thrown++;
                    System.out.println(m.getName() + Arrays.toString(arguments) + ": " + e.getCause());
                }
            }
        }
        return thrown;
    }

    /** What a run of 512 calls of each kind makes, in bytes; the document's room is some thirty megabytes. */
    private static void room() {
        com.sun.management.ThreadMXBean meter = (com.sun.management.ThreadMXBean) ManagementFactory.getThreadMXBean();
        long self = Thread.currentThread().getId();
        for (int kind = 0; kind < 8; kind++) {
            oneRun(kind);
            long before = meter.getThreadAllocatedBytes(self);
            oneRun(kind);
            long made = meter.getThreadAllocatedBytes(self) - before;
            Due.is("a run of kind " + kind + " makes " + made + " bytes: too many", made > 100_000 ? 1 : 0, 0);
        }
    }

    private static void oneRun(int kind) {
        BrothersField x = new BrothersField();
        x.size(8, 8);
        for (int p = 0; p < (kind == 1 ? 3 : 2); p++) {
            x.heir(1);
        }
        x.own(0x5555555555555555L, 0);
        x.own(0xAAAAAAAAAAAAAAAAL, 1);
        x.row(7, 3, 100);
        for (int i = 0; i < 490; i++) {
            switch (kind) {
                case 0: x.two(i % 3); break;
                case 1: if (i % 8 == 0) { x.three(i % 3); } break;
                case 2: x.choose(0, 1, i % 4); break;
                case 3: x.mend(20); break;
                case 4: x.sure(7, i % 2); break;
                case 5: x.row(i % 7, 3, 100); break;
                case 6: x.cut(6, 6213); x.act(6, 2, i); break;
                default: x.field(7); x.image(); x.restore(); break;
            }
        }
    }

    public static void main(String[] args) {
        face();
        nothingThrown();
        room();
        Due.end();
    }
}
