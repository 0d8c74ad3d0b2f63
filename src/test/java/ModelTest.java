import java.util.Random;

/** Long runs of calls by fixed seeds, ordinary ones and wrong ones, against the plain model. */
public final class ModelTest {
    private static final int RUNS = 4000;
    private final Due due = new Due("ModelTest");
    private final Random random;
    private final TrainNote x = new TrainNote();
    private final PlainModel m = new PlainModel();
    private int calls = 0;

    private ModelTest(int seed) {
        random = new Random(seed);
    }

    public static void main(String[] args) {
        int wrong = 0;
        for (int seed = 1; seed <= RUNS && wrong == 0; seed++) {
            wrong += new ModelTest(seed).run(seed);
        }
        System.out.println("ModelTest: " + RUNS + " runs, " + wrong + " wrong");
        if (wrong != 0) {
            System.exit(1);
        }
    }

    private int run(int seed) {
        typeSong();
        typeSingers();
        int most = 250 + random.nextInt(200);
        while (calls < most && due.wrong() == 0) {
            step();
        }
        same("digest()", x.digest(), m.digest());
        if (due.wrong() != 0) {
            System.out.println("in the run by seed " + seed);
        }
        return due.wrong();
    }

    private void same(String call, long got, long want) {
        calls++;
        due.is(call, got, want);
    }

    private int below(int n) {
        return random.nextInt(n);
    }

    /** A number from least to most, now and then one beside it or far away. */
    private int about(int least, int most) {
        switch (below(24)) {
            case 0: return least - 1;
            case 1: return most + 1;
            case 2: return below(2) == 0 ? Integer.MIN_VALUE : Integer.MAX_VALUE;
            case 3: return least;
            case 4: return most;
            default: return least + below(most - least + 1);
        }
    }

    private int someBar() {
        return about(0, Math.max(0, m.count(1) - 1));
    }

    private int someSinger() {
        return about(0, Math.max(0, m.count(0) - 1));
    }

    private void type(int text, int b) {
        same("type(" + text + ", " + b + ")", x.type(text, b), m.type(text, b));
    }

    private void typeSingers() {
        int n = below(9);
        int spots = 1 + below(10);
        int hearing = below(4);
        for (int i = 0; i < n; i++) {
            if (i > 0) {
                type(0, ';');
            }
            type(0, '0' + below(spots));
            type(0, '0' + below(10));
            type(0, '0' + below(10));
            type(0, below(4) <= hearing ? 'h' : 'n');
        }
    }

    private void typeSong() {
        int n = below(25);
        String of = below(2) == 0 ? "sre" : "ssssrre";
        for (int i = 0; i < n; i++) {
            type(1, of.charAt(below(of.length())));
        }
    }

    private void step() {
        switch (below(10)) {
            case 0: texts(); break;
            case 1: settings(); break;
            case 2: case 3: notes(); break;
            case 4: case 5: plans(); break;
            case 6: case 7: hearing(); break;
            case 8: sheets(); break;
            default: others(); break;
        }
    }

    private void texts() {
        int text = about(0, 1);
        int kind = below(30);
        if (kind == 0) {
            same("wipe(" + text + ")", x.wipe(text), m.wipe(text));
            if (text == 0) {
                typeSingers();
            } else {
                typeSong();
            }
        } else if (kind < 14) {
            same("undo(" + text + ")", x.undo(text), m.undo(text));
        } else if (kind < 26) {
            String may = text == 0 ? "0123456789hn;;hhnn" : "srex";
            type(text, may.charAt(below(may.length())));
        } else {
            type(text, about(0, 255));
        }
        if (m.fault(0) >= 0) {
            mendSingers();
        }
        same("fault(" + text + ")", x.fault(text), m.fault(text));
    }

    /** Most faults are undone at once, as a choir that is not there shows little. */
    private void mendSingers() {
        same("fault(0)", x.fault(0), m.fault(0));
        same("count(0)", x.count(0), m.count(0));
        for (int i = 0; i < 40 && m.fault(0) >= 0 && below(8) != 0; i++) {
            same("undo(0)", x.undo(0), m.undo(0));
        }
    }

    private void settings() {
        int what = about(0, 3);
        int v = what == 1 ? about(0, 9) : what == 2 ? about(0, 18) : about(0, 99);
        same("set(" + what + ", " + v + ")", x.set(what, v), m.set(what, v));
    }

    private void notes() {
        int i = someSinger();
        int b = someBar();
        int what = about(0, 3);
        switch (below(8)) {
            case 0: same("singer", x.singer(i, what), m.singer(i, what)); break;
            case 1: same("bar", x.bar(b), m.bar(b)); break;
            case 2: same("whistle", x.whistle(what * 3), m.whistle(what * 3)); break;
            case 3: same("ear", x.ear(i, what % 2), m.ear(i, what % 2)); break;
            case 4: same("note", x.note(i, b), m.note(i, b)); break;
            case 5: same("away", x.away(i, b), m.away(i, b)); break;
            case 6: same("chord", x.chord(b, what), m.chord(b, what)); break;
            default: same("open", x.open(what), m.open(what)); break;
        }
    }

    private void plans() {
        int b = someBar();
        int what = about(0, 1);
        int i = about(-1, 4);
        switch (below(4)) {
            case 0: same("stand(" + b + ", " + i + ")", x.stand(b, i), m.stand(b, i)); break;
            case 1: case 2: same("hush(" + b + ", " + what + ")", x.hush(b, what), m.hush(b, what)); break;
            default: same("drive(" + b + ", " + what + ")", x.drive(b, what), m.drive(b, what)); break;
        }
    }

    private void hearing() {
        int b = someBar();
        int i = someSinger();
        switch (below(12)) {
            case 0: case 1: case 2:
                int n = m.note(i, b) > 0 && below(8) != 0 ? m.note(i, b) : about(0, 2000);
                same("heard(" + b + ", " + i + ", " + n + ")", x.heard(b, i, n), m.heard(b, i, n));
                break;
            case 3: same("forget()", x.forget(), m.forget()); break;
            case 4: same("speeds(-1)", x.speeds(-1), m.speeds(-1)); break;
            case 5:
                int k = about(-1, below(2) == 0 ? 99 : 3);
                same("speeds(" + k + ")", x.speeds(k), m.speeds(k));
                break;
            case 6: same("cows()", x.cows(), m.cows()); break;
            case 7: case 8: same("ask()", x.ask(), m.ask()); break;
            case 9: case 10: herd(b); break;
            default:
                int seed = random.nextInt();
                int trains = about(1, 99);
                same("times(" + seed + ", " + trains + ", " + b + ")", x.times(seed, trains, b),
                    m.times(seed, trains, b));
                break;
        }
    }

    private void herd(int b) {
        int n = about(0, 9);
        int c = about(0, 16);
        int what = about(0, 1);
        same("herd(" + n + ", " + c + ", " + b + ", " + what + ")", x.herd(n, c, b, what), m.herd(n, c, b, what));
    }

    private void sheets() {
        int s = about(0, 3);
        int t = about(0, 3);
        int form = below(6) == 0 ? about(0, 2) : s & 1;
        int i = about(0, 12);
        int j = about(0, 12);
        int n = about(0, 12);
        int size = below(8) == 0 ? about(0, 60) : 12 + below(20);
        int v = below(3) == 0 ? random.nextInt() : below(3) == 0 ? about(-40000, 40000) : about(0, 7);
        switch (below(8)) {
            case 0: same("sheet", x.sheet(s, form, size), m.sheet(s, form, size)); break;
            case 1: same("lose", x.lose(s), m.lose(s)); break;
            case 2: case 3:
                for (int k = 0; k < 6; k++) {
                    int at = about(0, 12);
                    same("lay", x.lay(s, form, at, v + k), m.lay(s, form, at, v + k));
                }
                break;
            case 4: same("get", x.get(s, form, i), m.get(s, form, i)); break;
            case 5: same("copy", x.copy(s, i, t, j, n), m.copy(s, i, t, j, n)); break;
            case 6: same("read", x.read(s), m.read(s)); break;
            default: write(someBar(), s); break;
        }
        same("count(8)", x.count(8), m.count(8));
    }

    private void write(int b, int s) {
        same("write(" + b + ", " + s + ")", x.write(b, s), m.write(b, s));
        for (int form = 0; form < 3; form++) {
            for (int i = 0; i < 8; i++) {
                same("get", x.get(s, form, i), m.get(s, form, i));
            }
        }
    }

    private void others() {
        int what = about(0, 8);
        same("count(" + what + ")", x.count(what), m.count(what));
        if (below(12) == 0) {
            same("digest()", x.digest(), m.digest());
        }
    }
}
