/** Each promise of the document by its number, with answers worked out by hand from its words. */
public final class PromisesTest {
    private static final int LEAST = Integer.MIN_VALUE, MOST = Integer.MAX_VALUE;
    private static final long BAD_LONG = Long.MIN_VALUE + 2;
    private static final String EIGHT = "000h;000h;000h;000h;000h;000h;000h;000h";
    private final Due due = new Due("PromisesTest");
    private int promise = 0;
    private String about = "";

    public static void main(String[] args) {
        PromisesTest t = new PromisesTest();
        t.newObject();
        t.type();
        t.wipe();
        t.undo();
        t.fault();
        t.singer();
        t.bar();
        t.set();
        t.whistle();
        t.ear();
        t.note();
        t.away();
        t.chord();
        t.open();
        t.stand();
        t.hush();
        t.drive();
        t.heard();
        t.forget();
        t.read();
        t.speeds();
        t.cows();
        t.ask();
        t.herd();
        t.times();
        t.sheet();
        t.lose();
        t.lay();
        t.get();
        t.copy();
        t.write();
        t.count();
        t.digest();
        t.due.that("all 33 promises were asked", t.promise == 33);
        t.due.end();
    }

    private void next(String name) {
        promise++;
        about = promise + " " + name;
    }

    private void is(long want, long got) {
        StackTraceElement line = new Throwable().getStackTrace()[1];
        due.is("promise " + about + ", line " + line.getLineNumber(), got, want);
    }

    private static TrainNote of(String singers, String song) {
        TrainNote x = new TrainNote();
        put(x, 0, singers);
        put(x, 1, song);
        return x;
    }

    private static void put(TrainNote x, int text, String bytes) {
        x.wipe(text);
        for (int i = 0; i < bytes.length(); i++) {
            x.type(text, bytes.charAt(i));
        }
    }

    private static void row(TrainNote x, int s, int form, int... items) {
        x.sheet(s, form, items.length);
        for (int i = 0; i < items.length; i++) {
            x.lay(s, form, i, items[i]);
        }
    }

    private void newObject() {
        next("A new object");
        TrainNote x = new TrainNote();
        int[] counts = {0, 0, 0, 0, 0, 0, 40, 0, 0};
        for (int what = 0; what < counts.length; what++) {
            is(counts[what], x.count(what));
        }
        is(-1, x.fault(0));
        is(-1, x.fault(1));
        for (int s = 0; s < 4; s++) {
            is(-11, x.lose(s));
        }
        is(40, x.set(0, 0));
        is(0, x.set(1, 0));
        is(9, x.set(2, 0));
        is(10, x.set(3, 0));
        is(0, x.forget());
        TrainNote other = new TrainNote();
        is(40, other.count(6));
        is(0, other.count(8));
        is(-1, TrainNote.NONE);
        is(-2, TrainNote.BAD);
        is(-3, TrainNote.NOT);
        is(-4, TrainNote.FULL);
    }

    private void type() {
        next("type");
        TrainNote x = new TrainNote();
        is(1, x.type(0, '0'));
        is(2, x.type(0, '1'));
        is(1, x.type(1, 0));
        is(2, x.type(1, 255));
        for (int b : new int[] {-1, 256, LEAST, MOST}) {
            is(-2, x.type(0, b));
        }
        for (int text : new int[] {-1, 2, LEAST, MOST}) {
            is(-2, x.type(text, 's'));
        }
        is(2, x.count(2));
        is(2, x.count(3));
        for (int n = 3; n <= 39; n++) {
            is(n, x.type(0, 'x'));
        }
        is(-4, x.type(0, 'x'));
        is(-2, x.type(0, 256));
        for (int n = 3; n <= 24; n++) {
            is(n, x.type(1, 's'));
        }
        is(-4, x.type(1, 's'));
        is(-2, x.type(1, -1));
        is(39, x.count(2));
        is(24, x.count(3));
    }

    private void wipe() {
        next("wipe");
        TrainNote x = of(EIGHT, "srs");
        is(39, x.wipe(0));
        is(0, x.wipe(0));
        is(0, x.count(0));
        is(0, x.count(2));
        is(3, x.count(1));
        is(3, x.wipe(1));
        is(0, x.count(1));
        is(-1, x.bar(0));
        is(1, x.type(1, 'x'));
        is(1, x.wipe(1));
        for (int text : new int[] {-1, 2, LEAST, MOST}) {
            is(-2, x.wipe(text));
        }
    }

    private void undo() {
        next("undo");
        TrainNote x = of("012h;345n", "se");
        is(2, x.count(0));
        is(8, x.undo(0));
        is(0, x.count(0));
        is(9, x.type(0, 'h'));
        is(1, x.singer(1, 3));
        is(1, x.undo(1));
        is(0, x.undo(1));
        is(-3, x.undo(1));
        is(0, x.count(3));
        is(9, x.count(2));
        is(-2, x.undo(-1));
        is(-2, x.undo(2));
        is(-2, x.undo(MOST));
    }

    private void fault() {
        next("fault");
        String[] singers = {"", "0", "01", "012", "012h", "012h;", "x", "0x", "01x", "012x", "012hx", "012h;x",
            "012n;9", "012h;345n", "012h;345n;", ";", "h", "012h;;", "0123", "012H", "/00h", ":00h", "0/0h", "0:0h",
            "00/h", "00:h", "000h000h", "012h 345n", EIGHT, "012x;xxxx"};
        int[] faults = {-1, 1, 2, 3, -1, 5, 0, 1, 2, 3, 4, 5,
            6, -1, 10, 0, 0, 5, 3, 3, 0, 0, 1, 1, 2, 2, 4, 4, -1, 3};
        for (int i = 0; i < singers.length; i++) {
            TrainNote x = of(singers[i], "s");
            is(faults[i], x.fault(0));
            is(faults[i] == -1 ? (singers[i].length() + 1) / 5 : 0, x.count(0));
        }
        String[] songs = {"", "s", "r", "e", "sre", "x", "sx", "srex", "S", "ssr;", "ssssssssssssssssssssssss"};
        int[] inSongs = {-1, -1, -1, -1, -1, 0, 1, 3, 0, 3, -1};
        for (int i = 0; i < songs.length; i++) {
            TrainNote x = of("012h", songs[i]);
            is(inSongs[i], x.fault(1));
            is(inSongs[i] == -1 ? songs[i].length() : 0, x.count(1));
        }
        TrainNote x = of(EIGHT, "s");
        is(-4, x.type(0, ';'));
        is(8, x.count(0));
        for (int text : new int[] {-1, 2, LEAST, MOST}) {
            is(-2, x.fault(text));
        }
        x.undo(0);
        x.type(0, 200);
        is(38, x.fault(0));
        is(-10002, x.note(0, 0));
    }

    private void singer() {
        next("singer");
        TrainNote x = of("012h;987n", "");
        int[] first = {0, 1, 2, 1};
        int[] second = {9, 8, 7, 0};
        for (int what = 0; what < 4; what++) {
            is(first[what], x.singer(0, what));
            is(second[what], x.singer(1, what));
            is(-2, x.singer(2, what));
            is(-2, x.singer(-1, what));
        }
        is(-2, x.singer(0, 4));
        is(-2, x.singer(0, -1));
        is(-2, x.singer(MOST, 0));
        is(-2, x.singer(LEAST, LEAST));
        put(x, 0, "999n;" + EIGHT.substring(0, 34));
        is(9, x.singer(0, 2));
        is(1, x.singer(7, 3));
        is(-2, x.singer(8, 0));
        x.undo(0);
        is(-2, x.singer(0, 0));
    }

    private void bar() {
        next("bar");
        TrainNote x = of("", "sre");
        is(0, x.bar(0));
        is(1, x.bar(1));
        is(2, x.bar(2));
        is(-1, x.bar(3));
        is(-1, x.bar(23));
        is(-2, x.bar(24));
        is(-2, x.bar(-1));
        is(-2, x.bar(LEAST));
        is(-2, x.bar(MOST));
        put(x, 1, "ssssssssssssssssssssssse");
        is(2, x.bar(23));
        put(x, 1, "srx");
        is(-1, x.bar(0));
    }

    private void set() {
        next("set");
        TrainNote x = new TrainNote();
        int[] at = {40, 0, 9, 10};
        int[] most = {99, 9, 18, 99};
        for (int what = 0; what < 4; what++) {
            is(-2, x.set(what, -1));
            is(-2, x.set(what, most[what] + 1));
            is(-2, x.set(what, LEAST));
            is(-2, x.set(what, MOST));
            is(at[what], x.set(what, most[what]));
            is(most[what], x.set(what, 0));
            is(0, x.set(what, what + 1));
        }
        is(-2, x.set(-1, 0));
        is(-2, x.set(4, 0));
        is(-2, x.set(MOST, 0));
        for (int what = 0; what < 4; what++) {
            is(what + 1, x.set(what, 0));
        }
    }

    private void whistle() {
        next("whistle");
        TrainNote x = new TrainNote();
        for (int place = 0; place < 10; place++) {
            is(1040 - 10 * place, x.whistle(place));
        }
        is(-10002, x.whistle(-1));
        is(-10002, x.whistle(10));
        is(-10002, x.whistle(LEAST));
        is(-10002, x.whistle(MOST));
        x.set(0, 7);
        x.set(1, 2);
        is(999, x.whistle(3));
        is(1004, x.whistle(0));
        x.set(2, 0);
        is(990, x.whistle(3));
        x.set(2, 18);
        is(1008, x.whistle(3));
        x.set(0, 99);
        x.set(1, 9);
        x.set(2, 0);
        is(645, x.whistle(9));
        x.set(0, 0);
        is(991, x.whistle(9));
        x.set(0, 99);
        x.set(1, 0);
        x.set(2, 18);
        is(1108, x.whistle(0));
    }

    private void ear() {
        next("ear");
        TrainNote x = of("500n", "s");
        is(-1, x.ear(0, 0));
        is(-1, x.ear(0, 1));
        put(x, 0, "500h");
        is(-1, x.ear(0, 0));
        is(0, x.ear(0, 1));
        put(x, 0, "000h;100n;200n;300n;400n;500n;600n;700n");
        for (int i = 0; i < 8; i++) {
            is(i == 0 ? 1 : i - 1, x.ear(i, 0));
            is(i, x.ear(i, 1));
        }
        put(x, 0, "700n;600n;500n;000h;100n");
        is(1, x.ear(0, 0));
        is(0, x.ear(1, 0));
        is(1, x.ear(2, 0));
        is(4, x.ear(3, 0));
        is(3, x.ear(4, 0));
        is(-1, x.ear(0, 1));
        is(-1, x.ear(2, 1));
        is(0, x.ear(3, 1));
        is(1, x.ear(4, 1));
        put(x, 0, "000h;900h;500n;400n;590n;100h");
        is(4, x.ear(2, 0));
        is(2, x.ear(4, 0));
        is(-1, x.ear(3, 1));
        is(5, x.ear(0, 0));
        is(-2, x.ear(6, 0));
        is(-2, x.ear(-1, 0));
        is(-2, x.ear(0, 2));
        is(-2, x.ear(0, -1));
        is(-2, x.ear(MOST, LEAST));
    }

    private void note() {
        next("note");
        TrainNote x = of("171h;373n;999n;248h", "srrse");
        // 1030 less 7; what the fourth has and half of 7; what that one has and half of 9; 1020 and 4.
        int[][] notes = {{1023, 1023, 1022, 1021, 1023}, {1027, 1027, 1024, 1021, 1027},
            {1031, 1031, 1022, 1013, 1031}, {1024, 1024, 1016, 1008, 1024}};
        for (int i = 0; i < 4; i++) {
            for (int bar = 0; bar < 5; bar++) {
                is(notes[i][bar], x.note(i, bar));
            }
        }
        is(-10002, x.note(4, 0));
        is(-10002, x.note(-1, 0));
        is(-10002, x.note(0, 5));
        is(-10002, x.note(0, -1));
        is(-10002, x.note(MOST, LEAST));
        put(x, 0, "199n;190h");
        is(1025, x.note(0, 0));
        put(x, 0, "199n;190n;090h");
        is(-10000, x.note(0, 0));
        is(1049, x.note(2, 0));
        is(-10002, x.note(0, 5));
        x.set(0, 99);
        x.set(1, 9);
        x.set(2, 0);
        put(x, 0, "999h");
        put(x, 1, "rrrrrrrrrrrrrrrrrrrrrrrs");
        is(645 - 9 - 23 * 9, x.note(0, 23));
        is(645 - 9, x.note(0, 0));
        put(x, 1, "rrerersr");
        int[] rests = {0, 1, 0, 0, 0, 0, 1, 1};
        for (int bar = 0; bar < 8; bar++) {
            is(636 - 9 * rests[bar], x.note(0, bar));
        }
    }

    private void away() {
        next("away");
        TrainNote x = of("020h;909h;400n;400n", "srs");
        is(42, x.away(0, 0));
        is(-50, x.away(1, 1));
        is(-59, x.away(1, 2));
        is(-10000, x.away(2, 0));
        is(-10002, x.away(4, 0));
        is(-10002, x.away(-1, 0));
        is(-10002, x.away(0, 3));
        is(-10002, x.away(0, -1));
        put(x, 0, "400h");
        is(0, x.away(0, 0));
    }

    private void chord() {
        next("chord");
        TrainNote x = of("001h;100h;100h;900n;900n", "srs");
        is(10, x.chord(0, 0));
        is(1, x.chord(0, 1));
        is(1, x.chord(0, 2));
        is(10, x.chord(1, 0));
        is(0, x.chord(1, 1));
        is(1, x.chord(1, 2));
        is(9, x.chord(2, 0));
        x.set(3, 9);
        is(0, x.chord(0, 1));
        is(1, x.chord(2, 1));
        is(-2, x.chord(3, 0));
        is(-2, x.chord(-1, 0));
        is(-2, x.chord(0, 3));
        is(-2, x.chord(0, -1));
        is(-2, x.chord(MOST, LEAST));
        put(x, 0, "001h;900n;900n");
        is(0, x.chord(2, 0));
        is(1, x.chord(2, 1));
        is(0, x.chord(2, 2));
        put(x, 0, "900n;900n");
        is(0, x.chord(0, 0));
        is(1, x.chord(0, 1));
        is(-1, x.chord(0, 2));
        put(x, 0, "");
        x.set(3, 0);
        is(0, x.chord(0, 0));
        is(1, x.chord(0, 1));
        is(0, x.chord(1, 1));
        is(-1, x.chord(0, 2));
    }

    private void open() {
        next("open");
        // The one sinks by 9 in each rest: apart by 0, 9, 18, and by 0 anew.
        TrainNote x = of("000h;009h", "srsrrse");
        is(5, x.open(0));
        is(1, x.open(1));
        x.set(3, 8);
        is(2, x.open(0));
        is(2, x.open(1));
        x.set(3, 27);
        is(-1, x.open(0));
        is(0, x.open(1));
        x.set(3, 26);
        is(5, x.open(0));
        x.set(3, 0);
        put(x, 1, "rrr");
        is(-1, x.open(0));
        is(0, x.open(1));
        put(x, 0, "000h;100h");
        put(x, 1, "ersess");
        is(0, x.open(0));
        is(5, x.open(1));
        is(-2, x.open(2));
        is(-2, x.open(-1));
        is(-2, x.open(LEAST));
    }

    private void stands(TrainNote x, int bar, int much, int... rowOf) {
        is(much, x.stand(bar, -1));
        for (int i = 0; i < 5; i++) {
            is(i < rowOf.length ? rowOf[i] : -1, x.stand(bar, i));
        }
    }

    private void stand() {
        next("stand");
        TrainNote x = of("000h;109h", "srs");
        stands(x, 0, 10, 0, 1);
        stands(x, 1, 10, 0, 1);
        stands(x, 2, 1, 1, 0);
        is(19, x.chord(2, 0));
        is(1, x.singer(1, 0));
        // The greater it sinks, the nearer to the front: the third goes to the first's place, and so round.
        put(x, 0, "005h;100h;209h");
        stands(x, 2, 11, 1, 2, 0);
        // The sixth would close it, but stays.
        put(x, 0, "100h;100h;100h;100h;109h;000h");
        stands(x, 2, 19, 0, 1, 2, 3, 4);
        // By 8 the whistle falls by 2 a place, as they sink: all are like, if they stand the other way round.
        x.set(0, 8);
        put(x, 0, "000h;102h;204h;306h;408h;400h");
        stands(x, 2, 0, 4, 3, 2, 1, 0);
        put(x, 0, "000h;102h;204h;306h;408h;300h");
        stands(x, 2, 2, 4, 3, 2, 1, 0);
        put(x, 0, "000h;102h;204h;306h");
        stands(x, 2, 0, 3, 2, 1, 0);
        put(x, 0, "000h;102h;204h");
        stands(x, 2, 0, 2, 1, 0);
        x.set(0, 40);
        // Two that only hear each other are silent, and one alone is apart by nothing.
        put(x, 0, "000h;380n;980n");
        stands(x, 0, 0, 2, 0, 1);
        put(x, 0, "000h;320n;900n");
        is(1, x.chord(0, 0));
        stands(x, 0, 0, 2, 0, 1);
        // One way and its mirror are like: the least row.
        put(x, 0, "000h;200h;000h");
        stands(x, 0, 20, 0, 1, 2);
        // Whether the ear is added goes by the new place: 1049 and 1030 as told, 1021 and 1040 if they change.
        put(x, 0, "090h;100h");
        stands(x, 0, 19, 0, 1);
        put(x, 0, "190h;000h");
        stands(x, 0, 19, 0, 1);
        // Both even: 1040 and 1029; both odd: 1030 and 1001 as told, 1021 and 1010 if they change.
        put(x, 0, "090h;200h");
        stands(x, 0, 11, 1, 0);
        put(x, 0, "390h;100h");
        stands(x, 0, 11, 1, 0);
        put(x, 0, "900n");
        stands(x, 0, 0, 0);
        put(x, 0, "");
        stands(x, 0, 0);
        is(-2, x.stand(3, -1));
        is(-2, x.stand(-1, -1));
        is(-2, x.stand(0, -2));
        is(-2, x.stand(0, 5));
        is(-2, x.stand(LEAST, MOST));
    }

    private void hush() {
        next("hush");
        TrainNote x = of("000h;000h;100h;200h;500h", "sr");
        is(2, x.hush(0, 0));
        is(24, x.hush(0, 1));
        is(24, x.hush(1, 1));
        x.set(3, 9);
        is(3, x.hush(0, 0));
        is(28, x.hush(0, 1));
        x.set(3, 50);
        is(0, x.hush(0, 0));
        is(0, x.hush(0, 1));
        x.set(3, 49);
        is(1, x.hush(0, 0));
        is(16, x.hush(0, 1));
        // Either of two: the least bits.
        put(x, 0, "000h;900h");
        is(1, x.hush(0, 0));
        is(1, x.hush(0, 1));
        put(x, 0, "000h;900h;900h;000h");
        is(6, x.hush(0, 1));
        put(x, 0, "900h;000h;900h;500h");
        is(1, x.hush(0, 0));
        is(2, x.hush(0, 1));
        put(x, 0, "100h;000h;500h;900h");
        x.set(3, 10);
        is(12, x.hush(0, 1));
        put(x, 0, "100h;900h;900h;000h");
        is(6, x.hush(0, 1));
        // One that has the note from a hushed one sings on; silent ones need no hush.
        x.set(3, 0);
        put(x, 0, "000h;180n;280n;900n;900n");
        is(2, x.hush(0, 0));
        is(3, x.hush(0, 1));
        put(x, 0, "000h;090n;090n;900n;900n");
        is(1, x.hush(0, 0));
        is(1, x.hush(0, 1));
        put(x, 0, "900n;900n");
        is(0, x.hush(0, 1));
        put(x, 0, "");
        is(0, x.hush(0, 0));
        is(0, x.hush(0, 1));
        is(-2, x.hush(2, 0));
        is(-2, x.hush(-1, 0));
        is(-2, x.hush(0, 2));
        is(-2, x.hush(0, -1));
        put(x, 0, "000h;100h;200h;300h;400h;500h;600h;700h");
        is(7, x.hush(0, 0));
        is(127, x.hush(0, 1));
    }

    private void drive() {
        next("drive");
        // Apart by 6 less half the speed.
        TrainNote x = of("003h;260h", "srs");
        is(12, x.drive(0, 0));
        is(0, x.drive(0, 1));
        is(12, x.drive(1, 0));
        is(18, x.drive(2, 0));
        is(0, x.drive(2, 1));
        is(40, x.count(6));
        is(14, x.chord(0, 0));
        // Early by 2 it is half the speed, not cut, but up to the next.
        x.set(1, 2);
        is(11, x.drive(0, 0));
        is(0, x.drive(0, 1));
        x.set(1, 0);
        put(x, 0, "040h;100h");
        is(0, x.drive(0, 0));
        is(4, x.drive(0, 1));
        // At place 4 it is 1000 by all speeds; the other, 207 below behind 23 rests, comes near it by the last.
        put(x, 0, "400h;009h");
        put(x, 1, "rrrrrrrrrrrrrrrrrrrrrrrs");
        is(0, x.drive(0, 0));
        is(99, x.drive(23, 0));
        is(108, x.drive(23, 1));
        put(x, 0, "000h;409h");
        is(0, x.drive(23, 0));
        is(207, x.drive(23, 1));
        // 1000 and the speed; 1009 and 1013 less the speed: apart by 4 with 5 and with 6.
        put(x, 0, "000h;890h;890n");
        put(x, 1, "s");
        is(5, x.drive(0, 0));
        is(4, x.drive(0, 1));
        put(x, 0, "");
        is(0, x.drive(0, 0));
        is(0, x.drive(0, 1));
        is(-2, x.drive(1, 0));
        is(-2, x.drive(-1, 0));
        is(-2, x.drive(0, 2));
        is(-2, x.drive(0, -1));
    }

    private void heard() {
        next("heard");
        TrainNote x = of("000h", "s");
        is(1, x.heard(0, 0, 0));
        is(2, x.heard(23, 7, 2000));
        int[][] bad = {{-1, 0, 0}, {24, 0, 0}, {0, -1, 0}, {0, 8, 0}, {0, 0, -1}, {0, 0, 2001}, {LEAST, 0, 0},
            {0, MOST, 0}, {0, 0, MOST}};
        for (int[] b : bad) {
            is(-2, x.heard(b[0], b[1], b[2]));
        }
        for (int n = 3; n <= 8; n++) {
            is(n, x.heard(0, 0, 1000));
        }
        is(-4, x.heard(0, 0, 1000));
        is(-2, x.heard(0, 0, 2001));
        is(8, x.count(7));
    }

    private void forget() {
        next("forget");
        TrainNote x = of("000h", "s");
        is(0, x.forget());
        x.heard(0, 0, 1);
        is(0, x.speeds(-1));
        x.heard(0, 0, 2);
        is(2, x.forget());
        is(0, x.count(7));
        is(100, x.speeds(-1));
        for (int n = 1; n <= 8; n++) {
            is(n, x.heard(0, 0, 5));
        }
        is(8, x.forget());
        is(1, x.heard(0, 0, 5));
    }

    private void read() {
        next("read");
        TrainNote x = of("000h;100h", "s");
        is(-2, x.read(-1));
        is(-2, x.read(4));
        is(-2, x.read(MOST));
        is(0, x.count(8));
        is(-11, x.read(3));
        is(1, x.count(8));
        row(x, 0, 1, 0, 0, 1040, 0, 1, 1030, 0, 0);
        is(2, x.read(0));
        is(2, x.count(7));
        is(1, x.speeds(-1));
        is(40, x.speeds(0));
        // More comes to what there is, up to the first that may not be.
        row(x, 1, 2, 23, 7, 2000, 0, 0, 2001, 0, 0, 0);
        is(1, x.read(1));
        is(3, x.count(7));
        is(2, x.read(0));
        is(2, x.read(0));
        is(1, x.read(0));
        is(8, x.count(7));
        is(0, x.read(0));
        x.forget();
        x.sheet(2, 0, 2);
        is(0, x.read(2));
        x.sheet(2, 0, 0);
        is(0, x.read(2));
        row(x, 2, 0, 1, 2, 127, 3, 4, 200);
        is(1, x.read(2));
        x.forget();
        x.sheet(3, 2, 60);
        is(8, x.read(3));
        x.forget();
        row(x, 3, 2, -1, 0, 0, 0, 0, 0);
        is(0, x.read(3));
        row(x, 3, 2, 23, 7, 2000);
        is(1, x.read(3));
        is(1, x.forget());
        row(x, 3, 2, 0, 8, 0);
        is(0, x.read(3));
        row(x, 3, 2, 24, 0, 0);
        is(0, x.read(3));
        is(0, x.count(7));
    }

    private void speeds() {
        next("speeds");
        TrainNote x = of("101h;000h;900n;900n", "srs");
        is(100, x.speeds(-1));
        is(0, x.speeds(0));
        is(99, x.speeds(99));
        // 1000 and the speed less a fourth of it: 1033 by 43 and by 44.
        x.heard(0, 0, 1033);
        is(2, x.speeds(-1));
        is(43, x.speeds(0));
        is(44, x.speeds(1));
        is(-1, x.speeds(2));
        is(-1, x.speeds(99));
        x.heard(2, 0, 1032);
        is(2, x.speeds(-1));
        x.heard(1, 1, 1044);
        is(1, x.speeds(-1));
        is(44, x.speeds(0));
        is(-1, x.speeds(1));
        is(40, x.count(6));
        x.set(2, 10);
        is(0, x.speeds(-1));
        x.forget();
        x.set(1, 3);
        x.heard(0, 0, 1001);
        is(100, x.speeds(-1));
        x.set(2, 9);
        is(0, x.speeds(-1));
        x.forget();
        x.heard(0, 2, 1000);
        is(0, x.speeds(-1));
        x.forget();
        x.heard(0, 4, 1000);
        is(0, x.speeds(-1));
        x.forget();
        x.heard(3, 0, 999);
        is(0, x.speeds(-1));
        x.type(1, 's');
        is(100, x.speeds(-1));
        is(99, x.speeds(99));
        is(-2, x.speeds(-2));
        is(-2, x.speeds(100));
        is(-2, x.speeds(LEAST));
        is(-2, x.speeds(MOST));
    }

    private void cows() {
        next("cows");
        TrainNote x = of("001h;900n;900n", "srs");
        is(1023, x.cows());
        x.heard(0, 0, 1010);
        is(8, x.cows());
        x.heard(2, 0, 1009);
        is(8, x.cows());
        x.heard(2, 0, 1010);
        is(0, x.cows());
        x.forget();
        x.set(0, 1);
        x.set(1, 9);
        x.heard(0, 0, 1000);
        is(240, x.cows());
        x.set(0, 0);
        is(1023, x.cows());
        x.heard(0, 1, 1000);
        is(0, x.cows());
        x.forget();
        x.heard(0, 3, 1000);
        is(0, x.cows());
        x.forget();
        x.heard(3, 0, 1000);
        is(0, x.cows());
        x.forget();
        x.set(0, 40);
        x.heard(0, 0, 950);
        is(512, x.cows());
        is(9, x.set(1, 0));
    }

    private void ask() {
        next("ask");
        TrainNote x = of("", "srs");
        is(-1, x.ask());
        // By 100 speeds: all alike at place 4, by twos at place 1, each its own at place 0.
        put(x, 0, "400h;100h;000h");
        is(2, x.ask());
        put(x, 0, "400h;100h");
        is(1, x.ask());
        put(x, 0, "000h;009h;000h");
        is(0, x.ask());
        put(x, 0, "500h;400h;600h");
        is(2, x.ask());
        // A silent one tells nothing: it is alike by all.
        put(x, 0, "900n;900n;000h");
        is(2, x.ask());
        put(x, 0, "900n;900n;400h");
        is(0, x.ask());
        put(x, 0, "500n");
        is(0, x.ask());
        // All by twos; by 46 and 47 they are alike at place 6, not at places 2 and 1; by 46 alone all are like.
        put(x, 0, "600h;200h;100h");
        is(0, x.ask());
        x.heard(0, 0, 977);
        is(2, x.speeds(-1));
        is(46, x.speeds(0));
        is(1, x.ask());
        x.heard(0, 1, 1023);
        is(1, x.speeds(-1));
        is(0, x.ask());
        x.heard(0, 0, 5);
        is(0, x.speeds(-1));
        is(0, x.ask());
        put(x, 0, "");
        is(-1, x.ask());
    }

    private void chance(TrainNote x, int n, int c, int bar, long above, long below) {
        is(above, x.herd(n, c, bar, 0));
        is(below, x.herd(n, c, bar, 1));
    }

    private void herd() {
        next("herd");
        // By speed 2 and CLOSE 0 it closes, if an even number of cows is there.
        TrainNote x = of("000h;100h", "sre");
        x.set(0, 2);
        x.set(3, 0);
        x.set(1, 5);
        chance(x, 0, 0, 0, 1, 1);
        chance(x, 0, 16, 0, 1, 1);
        chance(x, 1, 8, 0, 1, 2);
        chance(x, 2, 4, 2, 5, 8);
        chance(x, 3, 5, 0, 539, 1024);
        chance(x, 1, 1, 0, 15, 16);
        chance(x, 9, 1, 0, 174571335L, 268435456L);
        chance(x, 9, 3, 0, 136170853L, 268435456L);
        chance(x, 9, 16, 0, 0, 1);
        chance(x, 9, 0, 0, 1, 1);
        chance(x, 8, 16, 0, 1, 1);
        is(5, x.set(1, 9));
        // By speed 1 and places 0, 2 (1 more) it closes by 2, 3, 6, 7 cows.
        put(x, 0, "000h;210h");
        x.set(0, 1);
        chance(x, 2, 1, 0, 1, 256);
        chance(x, 3, 1, 0, 23, 2048);
        x.set(3, 99);
        chance(x, 9, 7, 0, 1, 1);
        long[][] bad = {{-1, 0, 0, 0}, {10, 0, 0, 0}, {0, -1, 0, 0}, {0, 17, 0, 0}, {0, 0, -1, 0}, {0, 0, 3, 0},
            {0, 0, 0, -1}, {0, 0, 0, 2}, {0, 0, 1, 0}, {0, 0, 1, 1}, {MOST, MOST, MOST, MOST}};
        for (long[] b : bad) {
            is(BAD_LONG, x.herd((int) b[0], (int) b[1], (int) b[2], (int) b[3]));
        }
    }

    private void times() {
        next("times");
        // It closes by speeds up to 40. SEED 1: 38, 13, 19, 78, 80, 49, 84, 25, 57, 5; -1: 97, 62, 13, 48, 0.
        TrainNote x = of("000h;900h", "srs");
        x.set(3, 90);
        int[] byOne = {1, 2, 3, 3, 3, 3, 3, 4, 4, 5};
        for (int n = 1; n <= 10; n++) {
            is(byOne[n - 1], x.times(1, n, 0));
        }
        int[] byLess = {0, 0, 1, 1, 2};
        for (int n = 1; n <= 5; n++) {
            is(byLess[n - 1], x.times(-1, n, 2));
        }
        is(39, x.times(1, 99, 0));
        is(41, x.times(-1, 99, 0));
        is(42, x.times(LEAST, 99, 0));
        is(40, x.count(6));
        is(9, x.set(2, 9));
        is(-2, x.times(1, 0, 0));
        is(-2, x.times(1, 100, 0));
        is(-2, x.times(1, LEAST, 0));
        is(-2, x.times(1, 1, -1));
        is(-2, x.times(1, 1, 3));
        is(-2, x.times(1, 1, 1));
        // The whistle was early: nothing is nearer, but by whole fourths it may come out otherwise.
        x.set(3, 0);
        put(x, 0, "000h;100h");
        x.set(1, 3);
        is(1, x.times(-1, 5, 0));
    }

    private void sheet() {
        next("sheet");
        TrainNote x = new TrainNote();
        is(0, x.sheet(0, 0, 0));
        is(60, x.sheet(3, 2, 60));
        is(5, x.sheet(1, 1, 5));
        is(-2, x.sheet(-1, 0, 1));
        is(-2, x.sheet(4, 0, 1));
        is(-2, x.sheet(0, -1, 1));
        is(-2, x.sheet(0, 3, 1));
        is(-2, x.sheet(0, 0, 61));
        is(-2, x.sheet(0, 0, MOST));
        is(-2, x.sheet(4, 0, -1));
        is(-2, x.sheet(0, 3, -1));
        is(0, x.count(8));
        x.lay(1, 1, 4, 77);
        is(-15, x.sheet(1, 0, -1));
        is(-15, x.sheet(1, 0, LEAST));
        is(5, x.count(8));
        is(77, x.get(1, 1, 4));
        is(5, x.sheet(1, 1, 5));
        is(0, x.get(1, 1, 4));
        x.lay(1, 1, 4, 77);
        is(5, x.sheet(1, 2, 5));
        is(0, x.get(1, 2, 4));
        is(LEAST, x.get(1, 1, 4));
    }

    private void lose() {
        next("lose");
        TrainNote x = new TrainNote();
        x.sheet(0, 0, 0);
        x.sheet(1, 1, 60);
        is(0, x.lose(0));
        is(60, x.lose(1));
        is(0, x.count(8));
        is(-11, x.lose(1));
        is(1, x.count(8));
        is(-2, x.lose(-1));
        is(-2, x.lose(4));
        is(-2, x.lose(MOST));
        is(-11, x.lay(1, 1, 0, 0));
        is(3, x.sheet(1, 1, 3));
        is(3, x.lose(1));
    }

    private void lay() {
        next("lay");
        TrainNote x = new TrainNote();
        is(-11, x.lay(0, 0, 0, 0));
        x.sheet(0, 0, 3);
        x.sheet(1, 1, 3);
        x.sheet(2, 2, 3);
        int[] laid = {127, 128, 255, 256, -1, -129, 32767, 32768, 65535, 65536, -10000, LEAST, MOST};
        int[] asBytes = {127, -128, -1, 0, -1, 127, -1, 0, -1, 0, -16, 0, -1};
        int[] asShorts = {127, 128, 255, 256, -1, -129, 32767, -32768, -1, 0, -10000, 0, -1};
        for (int k = 0; k < laid.length; k++) {
            for (int form = 0; form < 3; form++) {
                is(1, x.lay(form, form, k % 3, laid[k]));
                is(form == 0 ? asBytes[k] : form == 1 ? asShorts[k] : laid[k], x.get(form, form, k % 3));
            }
        }
        is(-2, x.lay(-1, 0, 0, 0));
        is(-2, x.lay(4, 0, 0, 0));
        is(-2, x.lay(0, -1, 0, 0));
        is(-2, x.lay(0, 3, 0, 0));
        is(-2, x.lay(3, 3, 0, 0));
        is(1, x.count(8));
        is(-13, x.lay(0, 1, 0, 0));
        is(3, x.count(8));
        is(-13, x.lay(0, 1, 3, 0));
        is(-12, x.lay(0, 0, 3, 0));
        is(2, x.count(8));
        is(-12, x.lay(0, 0, -1, 0));
        is(-12, x.lay(0, 0, MOST, 0));
        is(-11, x.lay(3, 0, -1, 0));
        is(1, x.count(8));
    }

    private void get() {
        next("get");
        TrainNote x = new TrainNote();
        is(LEAST, x.get(4, 0, 0));
        is(LEAST, x.get(-1, 0, 0));
        is(LEAST, x.get(0, -1, 0));
        is(LEAST, x.get(0, 3, 0));
        is(0, x.count(8));
        is(LEAST, x.get(0, 0, 0));
        is(1, x.count(8));
        x.sheet(0, 1, 2);
        is(LEAST, x.get(0, 0, 2));
        is(3, x.count(8));
        is(LEAST, x.get(0, 1, 2));
        is(2, x.count(8));
        is(LEAST, x.get(1, 1, 2));
        is(1, x.count(8));
        is(LEAST, x.get(0, 1, -1));
        is(2, x.count(8));
        x.lay(0, 1, 1, -7);
        is(-7, x.get(0, 1, 1));
        is(0, x.get(0, 1, 0));
        is(2, x.count(8));
    }

    private void holds(TrainNote x, int s, int form, int... items) {
        for (int i = 0; i < items.length; i++) {
            is(items[i], x.get(s, form, i));
        }
    }

    private void copy() {
        next("copy");
        TrainNote x = new TrainNote();
        row(x, 0, 1, 1, 2, 3, 4, 5);
        row(x, 1, 1, 9, 9, 9);
        is(1, x.copy(0, 3, 1, 1, 2));
        holds(x, 1, 1, 9, 4, 5);
        is(1, x.copy(0, 0, 0, 1, 4));
        holds(x, 0, 1, 1, 1, 2, 3, 4);
        is(1, x.copy(0, 2, 0, 0, 3));
        holds(x, 0, 1, 2, 3, 4, 3, 4);
        is(1, x.copy(0, 5, 1, 3, 0));
        is(-2, x.copy(4, 0, 0, 0, 0));
        is(-2, x.copy(0, 0, 4, 0, 0));
        is(-2, x.copy(-1, 0, -1, 0, 0));
        is(-2, x.copy(2, 0, 4, 0, 0));
        is(0, x.count(8));
        is(-11, x.copy(2, 0, 0, 0, 0));
        is(1, x.count(8));
        x.sheet(3, 0, 5);
        is(-14, x.copy(0, 0, 3, 0, 1));
        is(4, x.count(8));
        is(-14, x.copy(0, -1, 3, 0, 9));
        is(-11, x.copy(0, -1, 2, 0, 1));
        is(-12, x.copy(0, 4, 1, 0, 2));
        is(2, x.count(8));
        is(-12, x.copy(0, 0, 1, 2, 2));
        is(-12, x.copy(0, -1, 1, 0, 1));
        is(-12, x.copy(0, 0, 1, -1, 1));
        is(-12, x.copy(0, 0, 1, 0, -1));
        is(-12, x.copy(0, 6, 1, 0, 0));
        is(-12, x.copy(0, 0, 1, 4, 0));
        is(-12, x.copy(0, 1, 1, 1, MOST));
        is(-12, x.copy(0, MOST, 1, 0, MOST));
        is(-12, x.copy(0, 0, 1, MOST, 1));
        is(-12, x.copy(0, LEAST, 0, LEAST, LEAST));
        holds(x, 0, 1, 2, 3, 4, 3, 4);
        holds(x, 1, 1, 9, 4, 5);
    }

    private void write() {
        next("write");
        TrainNote x = of("001h;903h;500n;500n", "srs");
        is(-2, x.write(3, 0));
        is(-2, x.write(-1, 0));
        is(-2, x.write(0, -1));
        is(-2, x.write(0, 4));
        is(0, x.count(8));
        is(-11, x.write(0, 0));
        is(1, x.count(8));
        row(x, 0, 2, 7, 7, 7, 7, 7);
        is(4, x.write(2, 0));
        holds(x, 0, 2, 1039, 947, -10000, -10000, 7);
        row(x, 1, 1, 7, 7);
        is(2, x.write(1, 1));
        holds(x, 1, 1, 1040, 950);
        x.sheet(2, 0, 3);
        is(3, x.write(0, 2));
        holds(x, 2, 0, 16, -74, -16);
        x.sheet(3, 0, 0);
        is(0, x.write(0, 3));
        put(x, 0, "");
        is(0, x.write(0, 0));
        holds(x, 0, 2, 1039, 947, -10000, -10000, 7);
    }

    private void count() {
        next("count");
        TrainNote x = of("001h;903h;500n;500n", "srsre");
        x.set(0, 73);
        x.heard(0, 0, 0);
        x.heard(0, 0, 0);
        x.heard(0, 0, 0);
        x.copy(0, 0, 0, 0, 0);
        int[] counts = {4, 5, 19, 5, 2, 2, 73, 3, 1};
        for (int what = 0; what < counts.length; what++) {
            is(counts[what], x.count(what));
        }
        x.sheet(0, 0, -1);
        is(5, x.count(8));
        x.type(2, 0);
        is(5, x.count(8));
        is(-2, x.count(9));
        is(-2, x.count(-1));
        is(-2, x.count(LEAST));
        is(-2, x.count(MOST));
        // With a fault a text is as if it was empty, but its bytes are there.
        x.type(0, '!');
        x.type(1, '!');
        int[] faulty = {0, 0, 20, 6, 0, 0, 73, 3, 5};
        for (int what = 0; what < faulty.length; what++) {
            is(faulty[what], x.count(what));
        }
        put(x, 0, EIGHT);
        is(8, x.count(0));
        is(0, x.count(4));
        put(x, 0, "500n");
        is(1, x.count(4));
    }

    private static long mixed(long... told) {
        long h = 17;
        for (long v : told) {
            h = 31 * h + v;
        }
        return h;
    }

    private void digest() {
        next("digest");
        TrainNote x = new TrainNote();
        is(mixed(0, 0, 0, 0, 0, 0, 40, 0, -1, -1, 1040, 950, -1, 0, -2, -2, -2, -2, -2, -2, BAD_LONG, BAD_LONG, -2,
            100, 0, 1023, -1), x.digest());
        // Two that hear, at 0 and 1, and two that are silent; apart by 10, and by 9 behind the rest; they would best
        // stand where the silent ones are; it closes by speeds up to 43, as 13 of 20 are by SEED 7.
        x = of("001h;100h;900n;900n", "srs");
        long[] told = {4, 3, 19, 3, 2, 1, 40, 1, -1, -1,
            0, 0, 1, 1, 1, 0, 1, 0, 0, 1, 0, 0, 9, 0, 0, 0, 3, -1, 9, 0, 0, 0, 2, -1,
            0, 1040, 1030, -10000, -10000, 1, 1040, 1030, -10000, -10000, 0, 1039, 1030, -10000, -10000,
            10, 1, 1, 10, 0, 1, 9, 1, 1,
            1040, 950, -1, 0, 0, 2, 0, 0, 0, 0, 1, 1, 13, 1, 40, 1, 0};
        x.heard(0, 0, 1040);
        is(mixed(told), x.digest());
        x.get(0, 0, 0);
        is(1, x.count(8));
        is(mixed(told), x.digest());
        // By 13, early by 2, they are 1007, 1007, 1006; by none or one cow they would be like.
        x = of("000h;000h;260h", "s");
        x.set(0, 13);
        x.set(1, 2);
        x.set(3, 0);
        is(mixed(3, 1, 14, 1, 0, 0, 13, 0, -1, -1, 0, 0, 0, 1, 1, 0, 0, 0, 0, 1, 0, 0, 2, 6, 0, 1, 0, 0,
            0, 1007, 1007, 1006, 1, 0, 2, 1007, 978, 0, 1, 1, 0, 1, 4, 11, 0, 1573, 2048, 0, 100, 0, 1023, 0),
            x.digest());
        // Where nobody sings it always closes.
        x = of("", "s");
        is(mixed(0, 1, 0, 1, 0, 0, 40, 0, -1, -1, 0, 0, 1, -1, 1040, 950, -1, 0, 0, -1, 0, 0, 0, 0, 1, 1, 20,
            100, 0, 1023, -1), x.digest());
        // A rest at first is told as refused.
        x = of("000h", "r");
        is(mixed(1, 1, 4, 1, 0, 1, 40, 0, -1, -1, 0, 0, 0, 1, -1, 0, 1, 1040, 0, 0, 0, 1040, 950, -1, 0, 0, 0, 0, 0, 0,
            0, BAD_LONG, BAD_LONG, -2, 100, 0, 1023, 0), x.digest());
        // Faults are told; the rest is as if there was nothing.
        x = of("000h;", "sx");
        is(mixed(0, 0, 5, 2, 0, 0, 40, 0, 5, 1, 1040, 950, -1, 0, -2, -2, -2, -2, -2, -2, BAD_LONG, BAD_LONG, -2,
            100, 0, 1023, -1), x.digest());
    }
}
