import java.util.Arrays;

/** A choir that takes its note from the whistle of the last train; DOC.md tells what each call promises. */
public final class TrainNote {
    public static final int NONE = -1, BAD = -2, NOT = -3, FULL = -4;

    // Where an answer may be any number, refusals stand far below every note.
    private static final int NO_NOTE = -10000, BAD_NUMBER = -10002, LEAST_INT = -2147483648;
    private static final long BAD_LONG = -9223372036854775806L;

    private static final int MOST_SINGERS = 8, MOST_BARS = 24, MOST_HEARD = 8, MOST_NOTE = 2000;
    private static final int SINGER_BYTES = 39, SONG_BYTES = 24;
    private static final int PLACES = 10, SPEEDS = 100, EARLIES = 10, MOST_COWS = 9, SIXTEENTHS = 16;
    private static final int WINDS = 19, MOST_TRAINS = 99, MOVERS = 5;
    private static final int SHEETS = 4, FORMS = 3, MOST_ITEMS = 60, LOST = -1;
    private static final int SING = 0, REST = 1, ANEW = 2;
    private static final int NULL = 1, INDEX = 2, CAST = 3, STORE = 4, SIZE = 5;
    private static final int[] SETTINGS = {SPEEDS, EARLIES, WINDS, 100};
    private static final int[] FACTORIALS = {1, 1, 2, 6, 24, 120};

    private final Text singersText = new Text(SINGER_BYTES), songText = new Text(SONG_BYTES);
    private final Choir choir = new Choir(), moved = new Choir();
    private final Song song = new Song();
    private final Train train = new Train(), otherTrain = new Train();
    private final Memory memory = new Memory();
    private final Sheet[] sheets = {new Sheet(), new Sheet(), new Sheet(), new Sheet()};
    private final int[] standing = new int[MOVERS], fittingSpeeds = new int[SPEEDS];
    private int latestFinding = 0;

    public TrainNote() {
    }

    // ---- singers, the song, the train

    public int type(int text, int b) {
        if (isNoText(text) || b < 0 || b > 255) {
            return BAD;
        }
        Text t = textOf(text);
        if (t.isFull()) {
            return FULL;
        }
        t.append(b);
        parse(text);
        return t.size;
    }

    public int wipe(int text) {
        if (isNoText(text)) {
            return BAD;
        }
        Text t = textOf(text);
        int had = t.size;
        t.shorten(0);
        parse(text);
        return had;
    }

    public int undo(int text) {
        if (isNoText(text)) {
            return BAD;
        }
        Text t = textOf(text);
        if (t.size == 0) {
            return NOT;
        }
        t.shorten(t.size - 1);
        parse(text);
        return t.size;
    }

    public int fault(int text) {
        if (isNoText(text)) {
            return BAD;
        }
        return text == 0 ? singersText.faultOfSingers() : songText.faultOfSong();
    }

    public int singer(int singer, int what) {
        if (isNoSinger(singer)) {
            return BAD;
        }
        switch (what) {
            case 0: return choir.place[singer];
            case 1: return choir.wrong[singer];
            case 2: return choir.sinks[singer];
            case 3: return choir.hears[singer] ? 1 : 0;
            default: return BAD;
        }
    }

    public int bar(int bar) {
        if (bar < 0 || bar >= MOST_BARS) {
            return BAD;
        }
        return bar < song.size ? song.kind[bar] : NONE;
    }

    public int set(int what, int v) {
        if (what < 0 || what >= SETTINGS.length || v < 0 || v >= SETTINGS[what]) {
            return BAD;
        }
        return train.change(what, v);
    }

    // ---- notes

    public int whistle(int place) {
        return place < 0 || place >= PLACES ? BAD_NUMBER : train.pitchAt(place);
    }

    public int ear(int singer, int what) {
        if (isNoSinger(singer) || isNoChoice(what)) {
            return BAD;
        }
        return what == 0 ? choir.neighbour[singer] : choir.steps[singer];
    }

    public int note(int singer, int bar) {
        if (isNoSinger(singer) || isNoBar(bar)) {
            return BAD_NUMBER;
        }
        return noteBehind(song.restsBefore[bar], choir, train, singer);
    }

    public int away(int singer, int bar) {
        if (isNoSinger(singer) || isNoBar(bar)) {
            return BAD_NUMBER;
        }
        int note = noteBehind(song.restsBefore[bar], choir, train, singer);
        return note == NO_NOTE ? NO_NOTE : note - 1000;
    }

    public int chord(int bar, int what) {
        if (isNoBar(bar)) {
            return BAD;
        }
        switch (what) {
            case 0: return spreadOf(choir, train, bar);
            case 1: return closes(train, bar) ? 1 : 0;
            case 2: return flattestIn(bar);
            default: return BAD;
        }
    }

    public int open(int what) {
        if (isNoChoice(what)) {
            return BAD;
        }
        int first = NONE;
        int howMany = 0;
        for (int bar = 0; bar < song.size; bar++) {
            if (song.kind[bar] != REST && !closes(train, bar)) {
                first = howMany == 0 ? bar : first;
                howMany++;
            }
        }
        return what == 0 ? first : howMany;
    }

    // ---- plans

    public int stand(int bar, int i) {
        if (isNoBar(bar) || i < NONE || i >= MOVERS) {
            return BAD;
        }
        int movers = Math.min(MOVERS, choir.size);
        if (i >= movers) {
            return NONE;
        }
        moved.become(choir);
        int best = bestOrder(bar, movers);
        if (i == NONE) {
            return spreadWhenMoved(best, movers, bar);
        }
        layOrder(best, movers);
        return standing[i];
    }

    public int hush(int bar, int what) {
        if (isNoBar(bar) || isNoChoice(what)) {
            return BAD;
        }
        int bits = fewestToHush(song.restsBefore[bar]);
        return what == 0 ? Integer.bitCount(bits) : bits;
    }

    public int drive(int bar, int what) {
        if (isNoBar(bar) || isNoChoice(what)) {
            return BAD;
        }
        otherTrain.become(train);
        int best = 0;
        int least = LEAST_INT;
        for (int speed = 0; speed < SPEEDS; speed++) {
            otherTrain.speed = speed;
            int spread = spreadOf(choir, otherTrain, bar);
            if (speed == 0 || spread < least) {
                best = speed;
                least = spread;
            }
        }
        return what == 0 ? best : least;
    }

    // ---- heard, cows, trains

    public int heard(int bar, int singer, int note) {
        if (!Memory.mayHold(bar, singer, note)) {
            return BAD;
        }
        if (memory.isFull()) {
            return FULL;
        }
        memory.keep(bar, singer, note);
        return memory.size;
    }

    public int forget() {
        int had = memory.size;
        memory.size = 0;
        return had;
    }

    public int read(int s) {
        if (isNoSheet(s)) {
            return BAD;
        }
        Sheet sheet = sheets[s];
        if (sheet.isLost()) {
            return find(NULL);
        }
        int taken = 0;
        for (int i = 0; i + 2 < sheet.size; i += 3) {
            if (memory.isFull() || !Memory.mayHold(sheet.items[i], sheet.items[i + 1], sheet.items[i + 2])) {
                break;
            }
            memory.keep(sheet.items[i], sheet.items[i + 1], sheet.items[i + 2]);
            taken++;
        }
        return taken;
    }

    public int speeds(int i) {
        if (i < NONE || i >= SPEEDS) {
            return BAD;
        }
        int howMany = findFittingSpeeds();
        if (i == NONE) {
            return howMany;
        }
        return i < howMany ? fittingSpeeds[i] : NONE;
    }

    public int cows() {
        otherTrain.become(train);
        int bits = 0;
        for (int early = 0; early < EARLIES; early++) {
            otherTrain.early = early;
            if (allComesOut(otherTrain)) {
                bits |= 1 << early;
            }
        }
        return bits;
    }

    public int ask() {
        int howMany = findFittingSpeeds();
        int best = NONE;
        int least = 0;
        for (int i = 0; i < choir.size; i++) {
            int alike = mostAlike(i, howMany);
            if (best == NONE || alike < least) {
                best = i;
                least = alike;
            }
        }
        return best;
    }

    public long herd(int n, int c, int bar, int what) {
        if (n < 0 || n > MOST_COWS || c < 0 || c > SIXTEENTHS || !isSung(bar) || isNoChoice(what)) {
            return BAD_LONG;
        }
        long above = waysToClose(n, c, bar);
        long below = power(SIXTEENTHS, n);
        // What stands below is a power of two, so halving alone brings lowest terms, and 0 to 0 by 1.
        for (int i = 0; i < 4 * n && above % 2 == 0; i++) {
            above /= 2;
            below /= 2;
        }
        return what == 0 ? above : below;
    }

    public int times(int seed, int n, int bar) {
        if (n < 1 || n > MOST_TRAINS || !isSung(bar)) {
            return BAD;
        }
        otherTrain.become(train);
        int lot = seed;
        int closing = 0;
        for (int i = 0; i < n; i++) {
            lot = nextSeed(lot);
            otherTrain.speed = lotOf(lot, SPEEDS);
            lot = nextSeed(lot);
            otherTrain.wind = lotOf(lot, WINDS);
            closing += closes(otherTrain, bar) ? 1 : 0;
        }
        return closing;
    }

    // ---- sheets

    public int sheet(int s, int form, int n) {
        if (isNoSheet(s) || isNoForm(form) || n > MOST_ITEMS) {
            return BAD;
        }
        if (n < 0) {
            return find(SIZE);
        }
        sheets[s].renew(form, n);
        return n;
    }

    public int lose(int s) {
        if (isNoSheet(s)) {
            return BAD;
        }
        Sheet sheet = sheets[s];
        if (sheet.isLost()) {
            return find(NULL);
        }
        int had = sheet.size;
        sheet.renew(LOST, 0);
        return had;
    }

    public int lay(int s, int form, int i, int v) {
        if (isNoSheet(s) || isNoForm(form)) {
            return BAD;
        }
        int finding = findingOfItem(sheets[s], form, i);
        if (finding != 0) {
            return find(finding);
        }
        sheets[s].put(i, v);
        return 1;
    }

    public int get(int s, int form, int i) {
        if (isNoSheet(s) || isNoForm(form)) {
            return LEAST_INT;
        }
        int finding = findingOfItem(sheets[s], form, i);
        if (finding != 0) {
            find(finding);
            return LEAST_INT;
        }
        return sheets[s].items[i];
    }

    public int copy(int s, int i, int t, int j, int n) {
        if (isNoSheet(s) || isNoSheet(t)) {
            return BAD;
        }
        Sheet from = sheets[s];
        Sheet to = sheets[t];
        if (from.isLost() || to.isLost()) {
            return find(NULL);
        }
        if (from.form != to.form) {
            return find(STORE);
        }
        if (!from.hasRun(i, n) || !to.hasRun(j, n)) {
            return find(INDEX);
        }
        System.arraycopy(from.items, i, to.items, j, n);
        return 1;
    }

    public int write(int bar, int s) {
        if (isNoBar(bar) || isNoSheet(s)) {
            return BAD;
        }
        Sheet sheet = sheets[s];
        if (sheet.isLost()) {
            return find(NULL);
        }
        int howMany = Math.min(sheet.size, choir.size);
        for (int i = 0; i < howMany; i++) {
            sheet.put(i, noteBehind(song.restsBefore[bar], choir, train, i));
        }
        return howMany;
    }

    public int count(int what) {
        switch (what) {
            case 0: return choir.size;
            case 1: return song.size;
            case 2: return singersText.size;
            case 3: return songText.size;
            case 4: return choir.howManySilent();
            case 5: return song.howManyRests();
            case 6: return train.speed;
            case 7: return memory.size;
            case 8: return latestFinding;
            default: return BAD;
        }
    }

    public long digest() {
        long h = 17;
        for (int what = 0; what <= 7; what++) {
            h = mix(h, count(what));
        }
        h = mix(h, fault(0));
        h = mix(h, fault(1));
        h = mixSingers(h);
        h = mixBars(h);
        h = mix(h, whistle(0));
        h = mix(h, whistle(9));
        h = mix(h, open(0));
        h = mix(h, open(1));
        h = mix(h, stand(0, NONE));
        h = mix(h, stand(0, 0));
        h = mix(h, hush(0, 0));
        h = mix(h, hush(0, 1));
        h = mix(h, drive(0, 0));
        h = mix(h, drive(0, 1));
        h = mix(h, herd(3, 5, 0, 0));
        h = mix(h, herd(3, 5, 0, 1));
        h = mix(h, times(7, 20, 0));
        h = mix(h, speeds(NONE));
        h = mix(h, speeds(0));
        h = mix(h, cows());
        return mix(h, ask());
    }

    private long mixSingers(long before) {
        long h = before;
        for (int i = 0; i < choir.size; i++) {
            for (int what = 0; what <= 3; what++) {
                h = mix(h, singer(i, what));
            }
            h = mix(h, ear(i, 0));
            h = mix(h, ear(i, 1));
        }
        return h;
    }

    private long mixBars(long before) {
        long h = before;
        for (int bar = 0; bar < song.size; bar++) {
            h = mix(h, bar(bar));
            for (int i = 0; i < choir.size; i++) {
                h = mix(h, note(i, bar));
            }
        }
        for (int bar = 0; bar < song.size; bar++) {
            for (int what = 0; what <= 2; what++) {
                h = mix(h, chord(bar, what));
            }
        }
        return h;
    }

    private static long mix(long h, long v) {
        return 31 * h + v;
    }

    // ---- what there is

    private static boolean isNoText(int text) {
        return text < 0 || text > 1;
    }

    private static boolean isNoChoice(int what) {
        return what < 0 || what > 1;
    }

    private static boolean isNoSheet(int s) {
        return s < 0 || s >= SHEETS;
    }

    private static boolean isNoForm(int form) {
        return form < 0 || form >= FORMS;
    }

    private boolean isNoSinger(int singer) {
        return singer < 0 || singer >= choir.size;
    }

    private boolean isNoBar(int bar) {
        return bar < 0 || bar >= song.size;
    }

    private boolean isSung(int bar) {
        return !isNoBar(bar) && song.kind[bar] != REST;
    }

    private Text textOf(int text) {
        return text == 0 ? singersText : songText;
    }

    private void parse(int text) {
        if (text == 0) {
            choir.parse(singersText);
        } else {
            song.parse(songText);
        }
    }

    // ---- notes of any choir by any train

    private static int noteBehind(int rests, Choir c, Train t, int singer) {
        int source = c.source[singer];
        if (source == NONE) {
            return NO_NOTE;
        }
        return t.pitchAt(c.place[source]) + c.error[singer] - c.sinks[singer] * rests;
    }

    private int spreadOf(Choir c, Train t, int bar) {
        int rests = song.restsBefore[bar];
        int least = NO_NOTE;
        int greatest = NO_NOTE;
        for (int i = 0; i < c.size; i++) {
            int note = noteBehind(rests, c, t, i);
            if (note != NO_NOTE) {
                least = least == NO_NOTE ? note : Math.min(least, note);
                greatest = Math.max(greatest, note);
            }
        }
        return greatest - least;
    }

    private boolean closes(Train t, int bar) {
        return isSung(bar) && spreadOf(choir, t, bar) <= t.close;
    }

    private int flattestIn(int bar) {
        int rests = song.restsBefore[bar];
        int flattest = NONE;
        int least = NO_NOTE;
        for (int i = 0; i < choir.size; i++) {
            int note = noteBehind(rests, choir, train, i);
            if (note != NO_NOTE && (flattest == NONE || note < least)) {
                flattest = i;
                least = note;
            }
        }
        return flattest;
    }

    // ---- how plans are found

    private int bestOrder(int bar, int movers) {
        int best = 0;
        int least = spreadWhenMoved(0, movers, bar);
        for (int order = 1; order < FACTORIALS[movers] && least > 0; order++) {
            int spread = spreadWhenMoved(order, movers, bar);
            if (spread < least) {
                best = order;
                least = spread;
            }
        }
        return best;
    }

    private int spreadWhenMoved(int order, int movers, int bar) {
        layOrder(order, movers);
        for (int i = 0; i < movers; i++) {
            moved.place[i] = choir.place[standing[i]];
        }
        moved.link();
        return spreadOf(moved, train, bar);
    }

    /** Lays out the row of that number among all rows in rising order, so that of like rows the least comes first. */
    private void layOrder(int order, int movers) {
        int rest = order;
        int used = 0;
        for (int i = 0; i < movers; i++) {
            int rows = Math.max(1, FACTORIALS[movers - 1 - i]);
            standing[i] = unusedAt(rest / rows, used, movers);
            used |= 1 << standing[i];
            rest %= rows;
        }
    }

    private static int unusedAt(int rank, int used, int movers) {
        int passed = 0;
        for (int i = 0; i < movers; i++) {
            if ((used & (1 << i)) == 0) {
                if (passed == rank) {
                    return i;
                }
                passed++;
            }
        }
        return 0;
    }

    /** The fewest leave just those that lie within CLOSE above some note, so one try for each note is enough. */
    private int fewestToHush(int rests) {
        int best = NONE;
        for (int i = 0; i < choir.size; i++) {
            int lowest = noteBehind(rests, choir, train, i);
            if (lowest != NO_NOTE) {
                int bits = outside(lowest, lowest + train.close, rests);
                best = best == NONE || isLesser(bits, best) ? bits : best;
            }
        }
        return best == NONE ? 0 : best;
    }

    private int outside(int lowest, int highest, int rests) {
        int bits = 0;
        for (int i = 0; i < choir.size; i++) {
            int note = noteBehind(rests, choir, train, i);
            if (note != NO_NOTE && (note < lowest || note > highest)) {
                bits |= 1 << i;
            }
        }
        return bits;
    }

    private static boolean isLesser(int bits, int than) {
        int more = Integer.bitCount(bits) - Integer.bitCount(than);
        return more < 0 || more == 0 && bits < than;
    }

    // ---- what was heard, and chance

    private boolean allComesOut(Train t) {
        for (int k = 0; k < memory.size; k++) {
            int singer = memory.singer[k];
            int bar = memory.bar[k];
            if (isNoSinger(singer) || isNoBar(bar)) {
                return false;
            }
            if (noteBehind(song.restsBefore[bar], choir, t, singer) != memory.note[k]) {
                return false;
            }
        }
        return true;
    }

    private int findFittingSpeeds() {
        otherTrain.become(train);
        int howMany = 0;
        for (int speed = 0; speed < SPEEDS; speed++) {
            otherTrain.speed = speed;
            if (allComesOut(otherTrain)) {
                fittingSpeeds[howMany] = speed;
                howMany++;
            }
        }
        return howMany;
    }

    /** With rising SPEED the whistle at a PLACE never rises and falls both, so like notes stand side by side. */
    private int mostAlike(int singer, int howMany) {
        int most = 0;
        int alike = 0;
        int last = 0;
        otherTrain.become(train);
        for (int k = 0; k < howMany; k++) {
            otherTrain.speed = fittingSpeeds[k];
            int note = noteBehind(0, choir, otherTrain, singer);
            alike = k > 0 && note == last ? alike + 1 : 1;
            most = Math.max(most, alike);
            last = note;
        }
        return most;
    }

    /** Of the 16 to the n even chances, those by which so many cows are there that the BAR closes. */
    private long waysToClose(int n, int c, int bar) {
        otherTrain.become(train);
        long ways = 0;
        long choices = 1;
        for (int there = 0; there <= n; there++) {
            otherTrain.early = there;
            if (closes(otherTrain, bar)) {
                ways += choices * power(c, there) * power(SIXTEENTHS - c, n - there);
            }
            choices = choices * (n - there) / (there + 1);
        }
        return ways;
    }

    private static long power(long base, int exponent) {
        long product = 1;
        for (int i = 0; i < exponent; i++) {
            product *= base;
        }
        return product;
    }

    private static int nextSeed(int seed) {
        return 1103515245 * seed + 12345;
    }

    private static int lotOf(int seed, int m) {
        return m > 0 ? (seed >>> 16) % m : 0;
    }

    // ---- findings

    private int find(int finding) {
        latestFinding = finding;
        return -10 - finding;
    }

    private static int findingOfItem(Sheet sheet, int form, int i) {
        if (sheet.isLost()) {
            return NULL;
        }
        if (sheet.form != form) {
            return CAST;
        }
        return i < 0 || i >= sheet.size ? INDEX : 0;
    }

    /** The bytes of a text, and where they cease to be one. */
    private static final class Text {
        final int[] bytes = new int[SINGER_BYTES];
        final int room;
        int size = 0;

        Text(int room) {
            this.room = Math.min(room, SINGER_BYTES);
        }

        boolean isFull() {
            return size >= room;
        }

        void append(int b) {
            if (!isFull()) {
                bytes[size] = b;
                size++;
            }
        }

        void shorten(int left) {
            size = Math.max(0, Math.min(left, size));
        }

        /** 39 bytes end with the eighth SINGER, so the first byte of a ninth is always refused by type(). */
        int faultOfSingers() {
            for (int i = 0; i < size; i++) {
                if (!fitsSinger(i % 5, bytes[i])) {
                    return i;
                }
            }
            return size == 0 || size % 5 == 4 ? NONE : size;
        }

        int faultOfSong() {
            for (int i = 0; i < size; i++) {
                if (bytes[i] != 's' && bytes[i] != 'r' && bytes[i] != 'e') {
                    return i;
                }
            }
            return NONE;
        }

        private static boolean fitsSinger(int column, int b) {
            switch (column) {
                case 3: return b == 'h' || b == 'n';
                case 4: return b == ';';
                default: return b >= '0' && b <= '9';
            }
        }
    }

    /** SINGERS as told, and by which chain of ears each has its note, which no train changes. */
    private static final class Choir {
        int size = 0;
        final int[] place = new int[MOST_SINGERS], wrong = new int[MOST_SINGERS], sinks = new int[MOST_SINGERS];
        final boolean[] hears = new boolean[MOST_SINGERS];
        // The one at the chain's end that HEARS (NONE: SILENT), and by how much the note is off when it has come.
        final int[] source = new int[MOST_SINGERS], error = new int[MOST_SINGERS];
        final int[] neighbour = new int[MOST_SINGERS], steps = new int[MOST_SINGERS];

        void parse(Text text) {
            size = 0;
            if (text.faultOfSingers() == NONE) {
                for (int at = 0; at + 3 < text.size && size < MOST_SINGERS; at += 5) {
                    place[size] = text.bytes[at] - '0';
                    wrong[size] = text.bytes[at + 1] - '0';
                    sinks[size] = text.bytes[at + 2] - '0';
                    hears[size] = text.bytes[at + 3] == 'h';
                    size++;
                }
            }
            link();
        }

        void become(Choir other) {
            size = other.size;
            for (int i = 0; i < size; i++) {
                place[i] = other.place[i];
                wrong[i] = other.wrong[i];
                sinks[i] = other.sinks[i];
                hears[i] = other.hears[i];
            }
        }

        void link() {
            for (int i = 0; i < size; i++) {
                neighbour[i] = nearestTo(i);
            }
            for (int i = 0; i < size; i++) {
                follow(i);
            }
        }

        private int nearestTo(int singer) {
            int nearest = NONE;
            int least = PLACES;
            for (int i = 0; i < size; i++) {
                int apart = Math.abs(place[i] - place[singer]);
                if (i != singer && apart < least) {
                    nearest = i;
                    least = apart;
                }
            }
            return nearest;
        }

        /** A chain longer than there are SINGERS goes round for ever. */
        private void follow(int singer) {
            int at = singer;
            int passed = 0;
            int sum = 0;
            while (passed < size && at != NONE && !hears[at]) {
                sum += wrong[at] / 2;
                at = neighbour[at];
                passed++;
            }
            if (at == NONE || !hears[at]) {
                source[singer] = NONE;
                steps[singer] = NONE;
                error[singer] = 0;
            } else {
                source[singer] = at;
                steps[singer] = passed;
                error[singer] = sum + (place[at] % 2 == 0 ? wrong[at] : -wrong[at]);
            }
        }

        int howManySilent() {
            int silent = 0;
            for (int i = 0; i < size; i++) {
                silent += source[i] == NONE ? 1 : 0;
            }
            return silent;
        }
    }

    /** BARS, and behind how many rests since the note was last taken each of them comes. */
    private static final class Song {
        int size = 0;
        final int[] kind = new int[MOST_BARS], restsBefore = new int[MOST_BARS];

        void parse(Text text) {
            size = text.faultOfSong() == NONE ? Math.min(text.size, MOST_BARS) : 0;
            int rests = 0;
            for (int bar = 0; bar < size; bar++) {
                kind[bar] = kindOf(text.bytes[bar]);
                rests = kind[bar] == ANEW ? 0 : rests;
                restsBefore[bar] = rests;
                rests += kind[bar] == REST ? 1 : 0;
            }
        }

        private static int kindOf(int b) {
            switch (b) {
                case 'r': return REST;
                case 'e': return ANEW;
                default: return SING;
            }
        }

        int howManyRests() {
            int rests = 0;
            for (int bar = 0; bar < size; bar++) {
                rests += kind[bar] == REST ? 1 : 0;
            }
            return rests;
        }
    }

    /** The TRAIN as it was, or as it might have been. */
    private static final class Train {
        int speed = 40, early = 0, wind = 9, close = 10;

        int pitchAt(int place) {
            return 1000 + speed - speed * (place + early) / 4 - 9 + wind;
        }

        void become(Train other) {
            speed = other.speed;
            early = other.early;
            wind = other.wind;
            close = other.close;
        }

        int change(int what, int v) {
            int was;
            switch (what) {
                case 0:
                    was = speed;
                    speed = v;
                    break;
                case 1:
                    was = early;
                    early = v;
                    break;
                case 2:
                    was = wind;
                    wind = v;
                    break;
                default:
                    was = close;
                    close = v;
                    break;
            }
            return was;
        }
    }

    /** What was HEARD, in the order of hearing. */
    private static final class Memory {
        int size = 0;
        final int[] bar = new int[MOST_HEARD], singer = new int[MOST_HEARD], note = new int[MOST_HEARD];

        static boolean mayHold(int bar, int singer, int note) {
            return bar >= 0 && bar < MOST_BARS && singer >= 0 && singer < MOST_SINGERS
                && note >= 0 && note <= MOST_NOTE;
        }

        boolean isFull() {
            return size >= MOST_HEARD;
        }

        void keep(int inBar, int ofSinger, int suchNote) {
            if (!isFull()) {
                bar[size] = inBar;
                singer[size] = ofSinger;
                note[size] = suchNote;
                size++;
            }
        }
    }

    /** A row that is made once and used again, whatever FORM it is given. */
    private static final class Sheet {
        final int[] items = new int[MOST_ITEMS];
        int form = LOST, size = 0;

        boolean isLost() {
            return form == LOST;
        }

        void renew(int newForm, int newSize) {
            form = newForm;
            size = Math.max(0, Math.min(newSize, MOST_ITEMS));
            Arrays.fill(items, 0);
        }

        void put(int i, int v) {
            if (i >= 0 && i < size) {
                items[i] = form == 0 ? (byte) v : form == 1 ? (short) v : v;
            }
        }

        /** By what is left, as i and n together may wrap. */
        boolean hasRun(int i, int n) {
            return i >= 0 && n >= 0 && i <= size && n <= size - i;
        }
    }
}
