import java.lang.reflect.Method;
import java.lang.reflect.Modifier;
import java.util.Arrays;

/** Every call with every row of edges for its numbers, on objects that are empty, full, wrong or ordinary. */
public final class SweepTest {
    private static final int LEAST = Integer.MIN_VALUE, MOST = Integer.MAX_VALUE;
    /** By how many numbers a call takes: the more they are, the fewer of each can be tried. */
    private static final int[][] EDGES = {
        {},
        {LEAST, LEAST + 1, -10002, -3, -2, -1, 0, 1, 2, 3, 4, 5, 6, 7, 8, 9, 10, 11, 22, 23, 24, 25, 98, 99, 100, 101,
            MOST - 1, MOST},
        {LEAST, -3, -2, -1, 0, 1, 2, 3, 4, 5, 6, 7, 8, 9, 10, 17, 18, 19, 22, 23, 24, 25, 48, 57, 58, 59, 98, 99, 100,
            104, 110, 115, 254, 255, 256, MOST},
        {LEAST, -1, 0, 1, 2, 3, 4, 7, 8, 23, 24, 59, 60, 61, 98, 99, 100, 2000, 2001, MOST},
        {LEAST, -1, 0, 1, 2, 3, 4, 9, 10, 16, 17, MOST},
        {LEAST, -1, 0, 1, 3, 4, 5, MOST},
    };
    private static final int KINDS = 5, CALLS = 300;
    private static final Due DUE = new Due("SweepTest");
    private final int kind;
    private TrainNote x;
    private PlainModel m;
    private int calls = CALLS;

    private SweepTest(int kind) {
        this.kind = kind;
    }

    public static void main(String[] args) throws ReflectiveOperationException {
        for (Method method : TrainNote.class.getDeclaredMethods()) {
            if (Modifier.isPublic(method.getModifiers())) {
                for (int kind = 0; kind < KINDS; kind++) {
                    new SweepTest(kind).sweep(method, new int[method.getParameterCount()], 0);
                }
            }
        }
        DUE.end();
    }

    private void sweep(Method method, int[] numbers, int set) throws ReflectiveOperationException {
        if (set == numbers.length) {
            ask(method.getName(), numbers);
            return;
        }
        for (int edge : EDGES[numbers.length]) {
            numbers[set] = edge;
            sweep(method, numbers, set + 1);
        }
    }

    /** The digest and what was found show what the call changed. */
    private void ask(String name, int... numbers) throws ReflectiveOperationException {
        if (calls >= CALLS) {
            renew();
        }
        both(name, numbers);
        both("count", 8);
        if (calls >= CALLS) {
            both("digest");
        }
    }

    private void both(String name, int... numbers) throws ReflectiveOperationException {
        calls++;
        DUE.is(name + Arrays.toString(numbers) + " of kind " + kind, answer(x, name, numbers),
            answer(m, name, numbers));
    }

    private static long answer(Object of, String name, int... numbers) throws ReflectiveOperationException {
        Class<?>[] types = new Class<?>[numbers.length];
        Object[] boxed = new Object[numbers.length];
        for (int i = 0; i < numbers.length; i++) {
            types[i] = int.class;
            boxed[i] = numbers[i];
        }
        return ((Number) of.getClass().getDeclaredMethod(name, types).invoke(of, boxed)).longValue();
    }

    private void renew() throws ReflectiveOperationException {
        x = new TrainNote();
        m = new PlainModel();
        calls = 0;
        switch (kind) {
            case 1: ordinary(); break;
            case 2: full(); break;
            case 3: wrong(); break;
            case 4: silent(); break;
            default: break;
        }
    }

    private void put(int text, String bytes) throws ReflectiveOperationException {
        for (int i = 0; i < bytes.length(); i++) {
            both("type", text, bytes.charAt(i));
        }
    }

    private void ordinary() throws ReflectiveOperationException {
        put(0, "021h;334h;150n;412n;971n");
        put(1, "srsrresrs");
        both("set", 0, 33);
        both("set", 3, 25);
        both("heard", 2, 1, (int) answer(m, "note", 1, 2));
        both("sheet", 0, 1, 5);
        both("sheet", 1, 1, 4);
        both("sheet", 3, 2, 9);
        both("write", 0, 3);
        both("write", 4, 0);
    }

    private void full() throws ReflectiveOperationException {
        put(0, Edges.EIGHT);
        put(1, Edges.LONG_SONG);
        int[] last = {99, 9, 18, 99};
        for (int what = 0; what < 4; what++) {
            both("set", what, last[what]);
        }
        for (int i = 0; i < 8; i++) {
            both("heard", 23, 7, (int) answer(m, "note", 7, 23));
        }
        for (int s = 0; s < 4; s++) {
            both("sheet", s, s % 3, 60);
            both("write", 23, s);
        }
    }

    private void wrong() throws ReflectiveOperationException {
        put(0, "021h;334h;");
        put(1, "sr!");
        both("heard", 0, 0, 1042);
        both("sheet", 0, 0, 0);
        both("sheet", 1, 0, -1);
    }

    private void silent() throws ReflectiveOperationException {
        put(0, "500n;500n;990n");
        put(1, "ers");
        both("set", 0, 0);
        both("set", 3, 0);
        both("sheet", 1, 0, 3);
        both("sheet", 2, 1, 2);
        both("lose", 2);
    }
}
