import java.lang.reflect.InvocationTargetException;
import java.lang.reflect.Method;
import java.util.Arrays;
import java.util.Comparator;
import java.util.List;
import java.util.TreeSet;
import java.util.function.Supplier;
import java.util.function.ToLongFunction;
import java.util.regex.Matcher;
import java.util.regex.Pattern;

/** Runs a class's tests of edges, each of which is a method that is named by its promise: promise2TakesBytes0To255. */
abstract class Edges {
    static final int LEAST = Integer.MIN_VALUE, MOST = Integer.MAX_VALUE;
    static final int NULL = 1, INDEX = 2, CAST = 3, STORE = 4, SIZE = 5;
    static final long BAD_LONG = Long.MIN_VALUE + 2;
    static final String EIGHT = "021h;334h;450n;412n;971n;908h;183n;600h";
    static final String LONG_SONG = "srsrrersessrrrrrsssreeer";
    private static final Pattern NAME = Pattern.compile("promise(\\d+)[A-Z]\\w*");
    private final Due due = new Due(getClass().getName());
    private String test = "";

    /** An answer that is a throw is wrong too, and told by the test's name; no promise from first to last is missed. */
    final void run(int first, int last) {
        TreeSet<Integer> missed = new TreeSet<>();
        for (int n = first; n <= last; n++) {
            missed.add(n);
        }
        Method[] methods = getClass().getDeclaredMethods();
        Arrays.sort(methods, Comparator.comparing(Method::getName));
        for (Method method : methods) {
            Matcher name = NAME.matcher(method.getName());
            if (name.matches()) {
                test = method.getName();
                missed.remove(Integer.parseInt(name.group(1)));
                due.is(test + " threw nothing", threw(method) ? 1 : 0, 0);
            }
        }
        due.is("promises without a test: " + missed, missed.size(), 0);
        due.end();
    }

    private boolean threw(Method method) {
        try {
            method.invoke(this);
            return false;
        } catch (InvocationTargetException e) {
            e.getCause().printStackTrace(System.out);
            return true;
        } catch (IllegalAccessException e) {
            throw new IllegalStateException(e);
        }
    }

    final void is(long want, long got) {
        StackWalker.StackFrame at = StackWalker.getInstance().walk(frames -> frames
            .filter(f -> f.getMethodName().startsWith("promise")).findFirst().orElseThrow());
        due.is(test + ", line " + at.getLineNumber(), got, want);
    }

    /** BAD, NOT and FULL change nothing: a twin to which the call was not said is the same in all that it answers. */
    final void refuses(long want, Supplier<TrainNote> maker, ToLongFunction<TrainNote> call) {
        TrainNote asked = maker.get();
        TrainNote twin = maker.get();
        is(want, call.applyAsLong(asked));
        is(twin.count(8), asked.count(8));
        sameBeside8(twin, asked);
    }

    /** A question changes nothing either. */
    final void onlyAsks(long want, Supplier<TrainNote> maker, ToLongFunction<TrainNote> call) {
        refuses(want, maker, call);
    }

    /** A FINDING is the answer -10 less its number, and changes count() 8 alone. */
    final void finds(int finding, Supplier<TrainNote> maker, ToLongFunction<TrainNote> call) {
        findsWith(-10 - finding, finding, maker, call);
    }

    final void findsWith(long want, int finding, Supplier<TrainNote> maker, ToLongFunction<TrainNote> call) {
        TrainNote asked = maker.get();
        TrainNote twin = maker.get();
        is(want, call.applyAsLong(asked));
        is(finding, asked.count(8));
        sameBeside8(twin, asked);
    }

    final void sameBeside8(TrainNote wanted, TrainNote got) {
        List<Long> want = State.of(wanted);
        List<Long> have = State.of(got);
        is(want.size(), have.size());
        for (int i = 0; i < Math.min(want.size(), have.size()); i++) {
            is(want.get(i), have.get(i));
        }
    }

    // ---- objects to ask

    static TrainNote of(String singers, String song) {
        TrainNote x = new TrainNote();
        put(x, 0, singers);
        put(x, 1, song);
        return x;
    }

    static void put(TrainNote x, int text, String bytes) {
        x.wipe(text);
        for (int i = 0; i < bytes.length(); i++) {
            x.type(text, bytes.charAt(i));
        }
    }

    /** The train, told as SPEED, EARLY, WIND and CLOSE. */
    static TrainNote train(TrainNote x, int... settings) {
        for (int what = 0; what < settings.length; what++) {
            x.set(what, settings[what]);
        }
        return x;
    }

    static void row(TrainNote x, int s, int form, int... items) {
        x.sheet(s, form, items.length);
        for (int i = 0; i < items.length; i++) {
            x.lay(s, form, i, items[i]);
        }
    }

    /** Something of everything: six SINGERS, nine BARS, two HEARD, a SHEET of each FORM, one LOST, STORE found last. */
    static TrainNote rich() {
        TrainNote x = train(of(EIGHT.substring(0, 29), "srsrresrs"), 33, 2, 5, 20);
        x.heard(0, 0, x.note(0, 0));
        x.heard(2, 1, x.note(1, 2));
        row(x, 0, 0, 3, -4, 5, 6, 7);
        row(x, 1, 1, 300, -400, 500, 600);
        row(x, 2, 2, 70000, -80000, 1, LEAST, MOST, 9);
        x.copy(0, 0, 1, 0, 1);
        return x;
    }

    /** All that can be full is full: both texts, HEARD, and a SHEET of each FORM; the fourth is empty. */
    static TrainNote full() {
        TrainNote x = train(of(EIGHT, LONG_SONG), 99, 9, 18, 99);
        for (int i = 0; i < 8; i++) {
            x.heard(0, 0, x.note(0, 0));
        }
        for (int s = 0; s < 3; s++) {
            x.sheet(s, s, 60);
            x.lay(s, s, 0, s + 1);
            x.lay(s, s, 59, -s - 1);
        }
        x.sheet(3, 0, 0);
        return x;
    }
}
