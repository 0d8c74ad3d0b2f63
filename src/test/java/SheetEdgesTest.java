import java.math.BigInteger;
import java.util.ArrayList;
import java.util.List;

/** Edges of promises 26 to 33: SHEETS and what is found of them, counts, the digest. */
public final class SheetEdgesTest extends Edges {
    private static final int[] NO_SHEETS = {-1, 4, LEAST, MOST}, NO_FORMS = {-1, 3, LEAST, MOST};

    public static void main(String[] args) {
        new SheetEdgesTest().run(26, 33);
    }

    private static TrainNote rows(int form, int... sizes) {
        TrainNote x = new TrainNote();
        for (int s = 0; s < sizes.length; s++) {
            x.sheet(s, form, sizes[s]);
            for (int i = 0; i < sizes[s]; i++) {
                x.lay(s, form, i, 10 * s + i + 1);
            }
        }
        return x;
    }

    private void holds(TrainNote x, int s, int form, int... items) {
        for (int i = 0; i < items.length; i++) {
            is(items[i], x.get(s, form, i));
        }
    }

    // ---- 26 sheet

    void promise26SheetsAre0To3AndForms0To2() {
        for (int s = 0; s < 4; s++) {
            for (int form = 0; form < 3; form++) {
                TrainNote x = new TrainNote();
                is(2, x.sheet(s, form, 2));
                is(1, x.lay(s, form, 1, 5));
                for (int other = 0; other < 4; other++) {
                    is(other == s ? 2 : -11, x.lose(other));
                }
            }
        }
    }

    void promise26From0To60Items() {
        for (int form = 0; form < 3; form++) {
            TrainNote x = new TrainNote();
            is(0, x.sheet(0, form, 0));
            is(1, x.sheet(1, form, 1));
            is(59, x.sheet(2, form, 59));
            is(60, x.sheet(3, form, 60));
            is(-12, x.lay(0, form, 0, 1));
            is(1, x.lay(1, form, 0, 1));
            is(-12, x.lay(1, form, 1, 1));
            is(1, x.lay(2, form, 58, 1));
            is(-12, x.lay(2, form, 59, 1));
            is(1, x.lay(3, form, 59, 1));
            is(-12, x.lay(3, form, 60, 1));
            is(0, x.lose(0));
            is(60, x.lose(3));
        }
    }

    void promise26ItemsAre0AtFirst() {
        TrainNote x = new TrainNote();
        for (int form = 0; form < 3; form++) {
            x.sheet(0, form, 60);
            for (int i = 0; i < 60; i++) {
                is(0, x.get(0, form, i));
            }
            x.lay(0, form, 0, 7);
            x.lay(0, form, 59, 7);
        }
    }

    void promise26ANewRowHasNothingOfTheOld() {
        TrainNote x = rows(1, 5);
        is(5, x.sheet(0, 1, 5));
        holds(x, 0, 1, 0, 0, 0, 0, 0);
        x = rows(1, 5);
        is(2, x.sheet(0, 1, 2));
        is(5, x.sheet(0, 1, 5));
        holds(x, 0, 1, 0, 0, 0, 0, 0);
        x = rows(1, 5);
        x.lose(0);
        is(5, x.sheet(0, 2, 5));
        holds(x, 0, 2, 0, 0, 0, 0, 0);
    }

    void promise26RefusesSheetsBeyond() {
        for (int s : NO_SHEETS) {
            refuses(-2, Edges::rich, x -> x.sheet(s, 0, 1));
        }
    }

    void promise26RefusesFormsBeyond() {
        for (int form : NO_FORMS) {
            refuses(-2, Edges::rich, x -> x.sheet(0, form, 1));
            refuses(-2, Edges::rich, x -> x.sheet(3, form, 1));
        }
    }

    void promise26RefusesMoreThan60Items() {
        for (int n : new int[] {61, 62, MOST}) {
            refuses(-2, Edges::rich, x -> x.sheet(0, 0, n));
            refuses(-2, Edges::rich, x -> x.sheet(3, 2, n));
        }
    }

    void promise26FindsASizeBelow0() {
        for (int n : new int[] {-1, -2, LEAST}) {
            finds(SIZE, Edges::rich, x -> x.sheet(0, 0, n));
            finds(SIZE, Edges::rich, x -> x.sheet(1, 2, n));
            finds(SIZE, Edges::rich, x -> x.sheet(3, 0, n));
        }
    }

    void promise26BadComesBeforeSize() {
        for (int s : NO_SHEETS) {
            refuses(-2, Edges::rich, x -> x.sheet(s, 0, -1));
        }
        for (int form : NO_FORMS) {
            refuses(-2, Edges::rich, x -> x.sheet(0, form, -1));
        }
        refuses(-2, Edges::rich, x -> x.sheet(-1, -1, LEAST));
    }

    // ---- 27 lose

    void promise27ItHad0To60Items() {
        TrainNote x = full();
        is(60, x.lose(0));
        is(60, x.lose(1));
        is(60, x.lose(2));
        is(0, x.lose(3));
        is(0, x.count(8));
        for (int s = 0; s < 4; s++) {
            is(-11, x.lose(s));
        }
    }

    void promise27ThatOneAloneIsLost() {
        TrainNote x = rich();
        is(5, x.lose(0));
        is(4, x.count(8));
        is(-400, x.get(1, 1, 1));
        is(MOST, x.get(2, 2, 4));
        is(Integer.MIN_VALUE, x.get(0, 0, 0));
        is(1, x.count(8));
    }

    void promise27FindsALostSheet() {
        finds(NULL, Edges::rich, x -> x.lose(3));
        finds(NULL, TrainNote::new, x -> x.lose(0));
    }

    void promise27RefusesSheetsBeyond() {
        for (int s : NO_SHEETS) {
            refuses(-2, Edges::rich, x -> x.lose(s));
            refuses(-2, TrainNote::new, x -> x.lose(s));
        }
    }

    // ---- 28 lay

    void promise28TheFirstAndTheLastItem() {
        for (int form = 0; form < 3; form++) {
            TrainNote x = rows(form, 3);
            is(1, x.lay(0, form, 0, 70));
            is(1, x.lay(0, form, 2, 90));
            holds(x, 0, form, 70, 2, 90);
        }
    }

    void promise28ABytesLowest8Bits() {
        int[] laid = {0, 127, 128, 255, 256, -1, -128, -129, -256, LEAST, MOST};
        int[] had = {0, 127, -128, -1, 0, -1, -128, 127, 0, 0, -1};
        TrainNote x = rows(0, 1);
        for (int k = 0; k < laid.length; k++) {
            is(1, x.lay(0, 0, 0, laid[k]));
            is(had[k], x.get(0, 0, 0));
        }
    }

    void promise28AShortsLowest16Bits() {
        int[] laid = {0, 32767, 32768, 65535, 65536, -1, -32768, -32769, -65536, LEAST, MOST};
        int[] had = {0, 32767, -32768, -1, 0, -1, -32768, 32767, 0, 0, -1};
        TrainNote x = rows(1, 1);
        for (int k = 0; k < laid.length; k++) {
            is(1, x.lay(0, 1, 0, laid[k]));
            is(had[k], x.get(0, 1, 0));
        }
    }

    void promise28AnIntHasAllBits() {
        TrainNote x = rows(2, 1);
        for (int v : new int[] {0, 65536, -65537, MOST, LEAST}) {
            is(1, x.lay(0, 2, 0, v));
            is(v, x.get(0, 2, 0));
        }
        is(0, x.count(8));
    }

    void promise28RefusesSheetsAndFormsBeyond() {
        for (int s : NO_SHEETS) {
            refuses(-2, Edges::rich, x -> x.lay(s, 0, 0, 1));
        }
        for (int form : NO_FORMS) {
            refuses(-2, Edges::rich, x -> x.lay(0, form, 0, 1));
        }
    }

    void promise28FindsALostSheet() {
        for (int form = 0; form < 3; form++) {
            int asked = form;
            finds(NULL, Edges::rich, x -> x.lay(3, asked, 0, 1));
        }
    }

    void promise28FindsAnotherForm() {
        for (int s = 0; s < 3; s++) {
            for (int form = 0; form < 3; form++) {
                int sheet = s;
                int asked = form;
                if (s != form) {
                    finds(CAST, Edges::rich, x -> x.lay(sheet, asked, 0, 1));
                }
            }
        }
    }

    void promise28FindsThatThereIsNoSuchItem() {
        for (int i : new int[] {-1, 5, 60, LEAST, MOST}) {
            finds(INDEX, Edges::rich, x -> x.lay(0, 0, i, 1));
        }
        finds(INDEX, Edges::rich, x -> x.lay(1, 1, 4, 1));
        finds(INDEX, Edges::full, x -> x.lay(2, 2, 60, 1));
        finds(INDEX, Edges::full, x -> x.lay(3, 0, 0, 1));
    }

    void promise28BadComesBeforeAll() {
        refuses(-2, Edges::rich, x -> x.lay(3, 3, 0, 1));
        refuses(-2, Edges::rich, x -> x.lay(3, -1, -1, 1));
        refuses(-2, Edges::rich, x -> x.lay(0, 3, 5, 1));
        refuses(-2, Edges::rich, x -> x.lay(4, 1, -1, 1));
    }

    void promise28NullComesBeforeCastAndIndex() {
        finds(NULL, Edges::rich, x -> x.lay(3, 1, -1, 1));
        finds(NULL, SheetEdgesTest::lostAgain, x -> x.lay(0, 1, 9, 1));
    }

    /** Once it had a FORM and items. */
    private static TrainNote lostAgain() {
        TrainNote x = rich();
        x.lose(0);
        return x;
    }

    void promise28CastComesBeforeIndex() {
        finds(CAST, Edges::rich, x -> x.lay(0, 1, 5, 1));
        finds(CAST, Edges::rich, x -> x.lay(0, 2, -1, 1));
        finds(CAST, Edges::full, x -> x.lay(3, 1, 0, 1));
    }

    // ---- 29 get

    void promise29TheFirstAndTheLastItem() {
        for (int form = 0; form < 3; form++) {
            TrainNote x = rows(form, 60);
            is(1, x.get(0, form, 0));
            is(60, x.get(0, form, 59));
            is(0, x.count(8));
        }
    }

    void promise29TheLeastIntMayBeAnItem() {
        TrainNote x = rows(2, 1);
        x.lay(0, 2, 0, LEAST);
        is(LEAST, x.get(0, 2, 0));
        is(0, x.count(8));
    }

    void promise29RefusesSheetsAndFormsBeyond() {
        for (int s : NO_SHEETS) {
            refuses(LEAST, Edges::rich, x -> x.get(s, 0, 0));
        }
        for (int form : NO_FORMS) {
            refuses(LEAST, Edges::rich, x -> x.get(0, form, 0));
        }
    }

    void promise29FindsALostSheet() {
        findsWith(LEAST, NULL, Edges::rich, x -> x.get(3, 0, 0));
        findsWith(LEAST, NULL, TrainNote::new, x -> x.get(0, 2, 0));
    }

    void promise29FindsAnotherForm() {
        findsWith(LEAST, CAST, Edges::rich, x -> x.get(0, 1, 0));
        findsWith(LEAST, CAST, Edges::rich, x -> x.get(0, 2, 0));
        findsWith(LEAST, CAST, Edges::rich, x -> x.get(1, 0, 0));
        findsWith(LEAST, CAST, Edges::rich, x -> x.get(2, 1, 0));
    }

    void promise29FindsThatThereIsNoSuchItem() {
        for (int i : new int[] {-1, 5, 60, LEAST, MOST}) {
            findsWith(LEAST, INDEX, Edges::rich, x -> x.get(0, 0, i));
        }
        findsWith(LEAST, INDEX, Edges::full, x -> x.get(2, 2, 60));
        findsWith(LEAST, INDEX, Edges::full, x -> x.get(3, 0, 0));
    }

    void promise29TheFirstThatFitsIsFound() {
        refuses(LEAST, Edges::rich, x -> x.get(3, 3, 0));
        refuses(LEAST, Edges::rich, x -> x.get(0, -1, -1));
        refuses(LEAST, Edges::rich, x -> x.get(4, 1, 9));
        findsWith(LEAST, NULL, Edges::rich, x -> x.get(3, 1, -1));
        findsWith(LEAST, NULL, SheetEdgesTest::lostAgain, x -> x.get(0, 1, 9));
        findsWith(LEAST, CAST, Edges::rich, x -> x.get(0, 1, 5));
        findsWith(LEAST, CAST, Edges::full, x -> x.get(3, 2, -1));
    }

    // ---- 30 copy

    void promise30AllItemsAndNone() {
        for (int form = 0; form < 3; form++) {
            TrainNote x = rows(form, 3, 3);
            is(1, x.copy(0, 0, 1, 0, 0));
            holds(x, 1, form, 11, 12, 13);
            is(1, x.copy(0, 0, 1, 0, 3));
            holds(x, 1, form, 1, 2, 3);
            holds(x, 0, form, 1, 2, 3);
        }
    }

    void promise30SixtyItems() {
        TrainNote x = rows(2, 60, 60);
        is(1, x.copy(0, 0, 1, 0, 60));
        for (int i = 0; i < 60; i++) {
            is(i + 1, x.get(1, 2, i));
        }
    }

    void promise30TheFirstAndTheLastItem() {
        TrainNote x = rows(1, 3, 3);
        is(1, x.copy(0, 2, 1, 0, 1));
        holds(x, 1, 1, 3, 12, 13);
        is(1, x.copy(0, 0, 1, 2, 1));
        holds(x, 1, 1, 3, 12, 1);
    }

    void promise30NoneFromBehindTheLastItem() {
        TrainNote x = rows(1, 3, 2, 0);
        is(1, x.copy(0, 3, 1, 2, 0));
        is(1, x.copy(2, 0, 2, 0, 0));
        is(1, x.copy(0, 3, 2, 0, 0));
        holds(x, 0, 1, 1, 2, 3);
        holds(x, 1, 1, 11, 12);
        finds(INDEX, () -> rows(1, 3, 2), y -> y.copy(0, 4, 1, 0, 0));
        finds(INDEX, () -> rows(1, 3, 2), y -> y.copy(0, 0, 1, 3, 0));
    }

    void promise30WithinOneTheyComeAsTheyWere() {
        TrainNote x = rows(1, 5);
        is(1, x.copy(0, 0, 0, 1, 4));
        holds(x, 0, 1, 1, 1, 2, 3, 4);
        x = rows(1, 5);
        is(1, x.copy(0, 1, 0, 0, 4));
        holds(x, 0, 1, 2, 3, 4, 5, 5);
        x = rows(1, 5);
        is(1, x.copy(0, 0, 0, 0, 5));
        holds(x, 0, 1, 1, 2, 3, 4, 5);
    }

    void promise30RefusesSheetsBeyond() {
        for (int s : NO_SHEETS) {
            refuses(-2, Edges::rich, x -> x.copy(s, 0, 0, 0, 1));
            refuses(-2, Edges::rich, x -> x.copy(0, 0, s, 0, 1));
            refuses(-2, Edges::rich, x -> x.copy(s, 0, s, 0, 0));
        }
    }

    void promise30FindsALostSheet() {
        finds(NULL, Edges::rich, x -> x.copy(3, 0, 0, 0, 0));
        finds(NULL, Edges::rich, x -> x.copy(0, 0, 3, 0, 0));
        finds(NULL, Edges::rich, x -> x.copy(3, 0, 3, 0, 0));
        finds(NULL, SheetEdgesTest::lostAgain, x -> x.copy(0, 0, 1, 0, 1));
    }

    void promise30FindsUnlikeForms() {
        for (int s = 0; s < 3; s++) {
            for (int t = 0; t < 3; t++) {
                int from = s;
                int to = t;
                if (s != t) {
                    finds(STORE, Edges::rich, x -> x.copy(from, 0, to, 0, 1));
                    finds(STORE, Edges::rich, x -> x.copy(from, 0, to, 0, 0));
                }
            }
        }
    }

    void promise30FindsWhatIsBelow0() {
        for (int v : new int[] {-1, LEAST}) {
            finds(INDEX, Edges::rich, x -> x.copy(0, v, 0, 0, 1));
            finds(INDEX, Edges::rich, x -> x.copy(0, 0, 0, v, 1));
            finds(INDEX, Edges::rich, x -> x.copy(0, 0, 0, 0, v));
            finds(INDEX, Edges::rich, x -> x.copy(0, v, 0, 0, 0));
            finds(INDEX, Edges::rich, x -> x.copy(0, 0, 0, v, 0));
            finds(INDEX, Edges::rich, x -> x.copy(0, v, 0, v, v));
            finds(INDEX, Edges::rich, x -> x.copy(0, 5, 0, 5, v));
        }
    }

    void promise30FindsThatThereAreNotSoMany() {
        finds(INDEX, () -> rows(1, 3, 5), x -> x.copy(0, 0, 1, 0, 4));
        finds(INDEX, () -> rows(1, 3, 5), x -> x.copy(1, 0, 0, 0, 4));
        finds(INDEX, () -> rows(1, 3, 5), x -> x.copy(0, 2, 1, 0, 2));
        finds(INDEX, () -> rows(1, 3, 5), x -> x.copy(1, 0, 0, 2, 2));
        finds(INDEX, () -> rows(1, 3, 5), x -> x.copy(0, 3, 1, 0, 1));
        finds(INDEX, () -> rows(1, 3, 5), x -> x.copy(1, 0, 0, 3, 1));
        finds(INDEX, Edges::full, x -> x.copy(0, 0, 0, 0, 61));
        finds(INDEX, Edges::full, x -> x.copy(3, 0, 3, 0, 1));
    }

    void promise30SumsDoNotWrap() {
        for (int far : new int[] {MOST, MOST - 1, MOST - 2}) {
            finds(INDEX, Edges::rich, x -> x.copy(0, far, 0, 0, 3));
            finds(INDEX, Edges::rich, x -> x.copy(0, 0, 0, far, 3));
            finds(INDEX, Edges::rich, x -> x.copy(0, 3, 0, 3, far));
            finds(INDEX, Edges::rich, x -> x.copy(0, far, 0, far, far));
        }
    }

    void promise30TheFirstThatFitsIsFound() {
        refuses(-2, Edges::rich, x -> x.copy(3, 0, 4, 0, 0));
        refuses(-2, Edges::rich, x -> x.copy(-1, 0, 3, 0, 0));
        refuses(-2, Edges::rich, x -> x.copy(0, -1, 4, -1, -1));
        finds(NULL, Edges::rich, x -> x.copy(3, -1, 0, 0, 1));
        finds(NULL, Edges::rich, x -> x.copy(0, 0, 3, 0, 9));
        finds(NULL, SheetEdgesTest::lostAgain, x -> x.copy(0, -1, 1, 0, 1));
        finds(STORE, Edges::rich, x -> x.copy(0, -1, 1, 0, 1));
        finds(STORE, Edges::rich, x -> x.copy(0, 0, 2, 0, 60));
        finds(STORE, Edges::rich, x -> x.copy(1, 0, 0, 0, -1));
    }

    // ---- 31 write

    void promise31AsManyAsThereAreItemsAndSingers() {
        for (int singers = 0; singers <= 8; singers++) {
            for (int items = 0; items <= 9; items++) {
                TrainNote x = of(EIGHT.substring(0, Math.max(0, 5 * singers - 1)), "s");
                x.sheet(0, 2, items);
                is(Math.min(singers, items), x.write(0, 0));
                for (int i = 0; i < items; i++) {
                    is(i < singers ? x.note(i, 0) : 0, x.get(0, 2, i));
                }
            }
        }
    }

    void promise31ItemsBehindThemStay() {
        TrainNote x = of("000h;900h", "s");
        row(x, 0, 2, 5, 6, 7, 8);
        is(2, x.write(0, 0));
        holds(x, 0, 2, 1040, 950, 7, 8);
        put(x, 0, "");
        is(0, x.write(0, 0));
        holds(x, 0, 2, 1040, 950, 7, 8);
    }

    void promise31SilentOnesAreToldAsNone() {
        TrainNote x = of("500n;500n;000h", "s");
        x.sheet(1, 1, 3);
        is(3, x.write(0, 1));
        holds(x, 1, 1, -10000, -10000, 1040);
    }

    void promise31AFormHasTheLowestBits() {
        TrainNote x = of("000h;500h;900n;900n", "s");
        x.sheet(0, 0, 4);
        x.sheet(1, 1, 4);
        x.sheet(2, 2, 4);
        for (int s = 0; s < 3; s++) {
            is(4, x.write(0, s));
        }
        holds(x, 0, 0, 16, -34, -16, -16);
        holds(x, 1, 1, 1040, 990, -10000, -10000);
        holds(x, 2, 2, 1040, 990, -10000, -10000);
    }

    void promise31TheFirstAndTheLastBar() {
        TrainNote x = of("409h", "rrrrrrrrrrrrrrrrrrrrrrrs");
        x.sheet(3, 1, 1);
        is(1, x.write(0, 3));
        is(1000, x.get(3, 1, 0));
        is(1, x.write(23, 3));
        is(793, x.get(3, 1, 0));
    }

    void promise31RefusesBarsThatThereAreNot() {
        for (int bar : new int[] {-1, 9, 23, 24, LEAST, MOST}) {
            refuses(-2, Edges::rich, x -> x.write(bar, 0));
        }
        refuses(-2, Edges::full, x -> x.write(24, 0));
        refuses(-2, () -> rows(1, 3), x -> x.write(0, 0));
    }

    void promise31RefusesSheetsBeyond() {
        for (int s : NO_SHEETS) {
            refuses(-2, Edges::rich, x -> x.write(0, s));
            refuses(-2, Edges::rich, x -> x.write(9, s));
        }
    }

    void promise31FindsALostSheet() {
        finds(NULL, Edges::rich, x -> x.write(0, 3));
        finds(NULL, () -> of("", "s"), x -> x.write(0, 0));
    }

    void promise31BadComesBeforeNull() {
        refuses(-2, Edges::rich, x -> x.write(9, 3));
        refuses(-2, Edges::rich, x -> x.write(-1, 3));
        refuses(-2, TrainNote::new, x -> x.write(0, 0));
    }

    // ---- 32 count

    private void counts(TrainNote x, int... counts) {
        for (int what = 0; what < counts.length; what++) {
            is(counts[what], x.count(what));
        }
    }

    void promise32OfNothingAndOfAll() {
        counts(new TrainNote(), 0, 0, 0, 0, 0, 0, 40, 0, 0);
        counts(full(), 8, 24, 39, 24, 2, 11, 99, 8, 0);
        counts(rich(), 6, 9, 29, 9, 2, 4, 33, 2, 4);
    }

    void promise32NoneOrAllEightMayBeSilent() {
        is(0, of(EIGHT.replace('n', 'h'), "s").count(4));
        is(8, of(EIGHT.replace('h', 'n'), "s").count(4));
        is(1, of("500n", "s").count(4));
        is(0, of("500h;500n", "s").count(4));
    }

    void promise32NoneOrAll24MayBeRests() {
        is(0, of("", "sesesesesesesesesesesese").count(5));
        is(24, of("", "rrrrrrrrrrrrrrrrrrrrrrrr").count(5));
    }

    void promise32WithAFaultThereAreBytesAlone() {
        counts(of("500n;", "rrx"), 0, 0, 5, 3, 0, 0, 40, 0, 0);
    }

    void promise32SpeedMayBe0And99() {
        is(0, train(new TrainNote(), 0).count(6));
        is(99, train(new TrainNote(), 99).count(6));
    }

    void promise32TheLatestFindingIsTold() {
        TrainNote x = rows(1, 3, 3);
        is(0, x.count(8));
        x.lose(3);
        is(1, x.count(8));
        x.lay(0, 1, 3, 0);
        is(2, x.count(8));
        x.lay(0, 0, 3, 0);
        is(3, x.count(8));
        x.sheet(2, 2, 1);
        is(3, x.count(8));
        x.copy(0, 0, 2, 0, 0);
        is(4, x.count(8));
        x.sheet(0, 0, -1);
        is(5, x.count(8));
        x.read(3);
        is(1, x.count(8));
    }

    void promise32OtherRefusalsAreNoFindings() {
        TrainNote x = full();
        x.sheet(0, 0, -1);
        x.type(0, 'h');
        x.type(2, 0);
        x.heard(0, 0, 0);
        x.heard(24, 0, 0);
        x.herd(-1, 0, 0, 0);
        x.get(4, 0, 0);
        x.copy(0, 0, 4, 0, 0);
        x.wipe(0);
        x.undo(0);
        is(5, x.count(8));
    }

    void promise32RefusesAnyOtherWhat() {
        for (int what : new int[] {-1, 9, LEAST, MOST}) {
            refuses(-2, Edges::rich, x -> x.count(what));
            refuses(-2, TrainNote::new, x -> x.count(what));
        }
    }

    // ---- 33 digest

    /** What the document lists, one by one, as it is told. */
    private static List<Long> listed(TrainNote x) {
        List<Long> told = new ArrayList<>();
        for (int what = 0; what <= 7; what++) {
            told.add((long) x.count(what));
        }
        told.add((long) x.fault(0));
        told.add((long) x.fault(1));
        int singers = x.count(0);
        int bars = x.count(1);
        for (int i = 0; i < singers; i++) {
            for (int what = 0; what <= 3; what++) {
                told.add((long) x.singer(i, what));
            }
            told.add((long) x.ear(i, 0));
            told.add((long) x.ear(i, 1));
        }
        for (int bar = 0; bar < bars; bar++) {
            told.add((long) x.bar(bar));
            for (int i = 0; i < singers; i++) {
                told.add((long) x.note(i, bar));
            }
        }
        for (int bar = 0; bar < bars; bar++) {
            for (int what = 0; what <= 2; what++) {
                told.add((long) x.chord(bar, what));
            }
        }
        for (long v : new long[] {x.whistle(0), x.whistle(9), x.open(0), x.open(1), x.stand(0, -1), x.stand(0, 0),
            x.hush(0, 0), x.hush(0, 1), x.drive(0, 0), x.drive(0, 1), x.herd(3, 5, 0, 0), x.herd(3, 5, 0, 1),
            x.times(7, 20, 0), x.speeds(-1), x.speeds(0), x.cows(), x.ask()}) {
            told.add(v);
        }
        return told;
    }

    /** By numbers that have no end, cut to 64 bits at last. */
    private static long mixed(List<Long> told) {
        BigInteger h = BigInteger.valueOf(17);
        for (long v : told) {
            h = h.multiply(BigInteger.valueOf(31)).add(BigInteger.valueOf(v));
        }
        return h.longValue();
    }

    private static List<Long> list(long... told) {
        List<Long> list = new ArrayList<>();
        for (long v : told) {
            list.add(v);
        }
        return list;
    }

    void promise33OfNothing() {
        is(mixed(list(0, 0, 0, 0, 0, 0, 40, 0, -1, -1, 1040, 950, -1, 0, -2, -2, -2, -2, -2, -2, BAD_LONG, BAD_LONG,
            -2, 100, 0, 1023, -1)), new TrainNote().digest());
    }

    void promise33LongsWrap() {
        is(mixed(listed(full())), full().digest());
        is(mixed(listed(rich())), rich().digest());
        is(mixed(listed(of(EIGHT, ""))), of(EIGHT, "").digest());
        is(mixed(listed(of("", LONG_SONG))), of("", LONG_SONG).digest());
    }

    void promise33TheHerdIsOfThreeCowsByFiveSixteenths() {
        TrainNote x = train(of("000h;300h", "s"), 1, 0, 9, 0);
        is(1331, x.herd(3, 5, 0, 0));
        is(4096, x.herd(3, 5, 0, 1));
        is(mixed(listed(x)), x.digest());
    }

    void promise33FaultsAreToldAndTheRestIsAsOfNothing() {
        is(mixed(list(0, 0, 5, 2, 0, 0, 40, 0, 5, 1, 1040, 950, -1, 0, -2, -2, -2, -2, -2, -2, BAD_LONG, BAD_LONG,
            -2, 100, 0, 1023, -1)), of("000h;", "sx").digest());
    }

    void promise33OfARestAtFirstRefusalsAreTold() {
        is(mixed(list(1, 1, 4, 1, 0, 1, 40, 0, -1, -1, 0, 0, 0, 1, -1, 0, 1, 1040, 0, 0, 0, 1040, 950, -1, 0, 0, 0,
            0, 0, 0, 0, BAD_LONG, BAD_LONG, -2, 100, 0, 1023, 0)), of("000h", "r").digest());
    }

    void promise33FindingsAndSheetsAreNotTold() {
        TrainNote x = rich();
        long before = x.digest();
        x.lose(0);
        x.lose(0);
        x.sheet(3, 2, 60);
        x.get(3, 2, 60);
        is(before, x.digest());
    }

    void promise33NothingChangesByIt() {
        onlyAsks(rich().digest(), Edges::rich, TrainNote::digest);
        onlyAsks(full().digest(), Edges::full, TrainNote::digest);
        TrainNote x = full();
        long first = x.digest();
        is(first, x.digest());
    }
}
