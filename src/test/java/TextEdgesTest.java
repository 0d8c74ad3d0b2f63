/** Edges of promises 1 to 8: a new object, the texts, the SINGERS and BARS in them, the TRAIN. */
public final class TextEdgesTest extends Edges {
    private static final int[] NO_TEXTS = {-1, 2, 255, LEAST, MOST};

    public static void main(String[] args) {
        new TextEdgesTest().run(1, 8);
    }

    private static TrainNote withSingers(String singers) {
        return of(singers, "srs");
    }

    private static TrainNote withSong(String song) {
        return of("021h;334h", song);
    }

    // ---- 1 A new object

    void promise1HasNoSingers() {
        TrainNote x = new TrainNote();
        is(0, x.count(0));
        is(0, x.count(2));
        is(0, x.count(4));
        is(-1, x.fault(0));
        is(-2, x.singer(0, 0));
        is(-2, x.ear(0, 0));
    }

    void promise1HasNoSong() {
        TrainNote x = new TrainNote();
        is(0, x.count(1));
        is(0, x.count(3));
        is(0, x.count(5));
        is(-1, x.fault(1));
        is(-1, x.bar(0));
        is(-2, x.chord(0, 0));
    }

    void promise1AllSheetsAreLost() {
        for (int s = 0; s < 4; s++) {
            int sheet = s;
            finds(NULL, TrainNote::new, x -> x.lose(sheet));
        }
    }

    void promise1TrainIsAsTold() {
        TrainNote x = new TrainNote();
        is(40, x.count(6));
        is(40, x.set(0, 1));
        is(0, x.set(1, 1));
        is(9, x.set(2, 1));
        is(10, x.set(3, 1));
    }

    void promise1NothingIsHeardOrFound() {
        TrainNote x = new TrainNote();
        is(0, x.count(7));
        is(0, x.count(8));
        is(0, x.forget());
    }

    void promise1OneObjectIsNotAnother() {
        TrainNote before = new TrainNote();
        full();
        rich();
        sameBeside8(before, new TrainNote());
        is(0, new TrainNote().count(8));
    }

    void promise1AnObjectIsGoodFor512Calls() {
        TrainNote x = of(EIGHT, LONG_SONG);
        int calls = 2 + 39 + 24;
        while (calls < 511) {
            x.type(0, 'x');
            x.lose(3);
            calls += 2;
        }
        is(511, calls);
        is(of(EIGHT, LONG_SONG).digest(), x.digest());
    }

    // ---- 2 type

    void promise2TakesBytes0To255() {
        for (int text = 0; text < 2; text++) {
            TrainNote x = new TrainNote();
            is(1, x.type(text, 0));
            is(2, x.type(text, 255));
            is(2, x.count(2 + text));
            is(0, x.count(3 - text));
        }
    }

    void promise2RefusesBytesBeyond() {
        for (int b : new int[] {-1, 256, 256 + '0', -256 + 's', LEAST, MOST}) {
            refuses(-2, Edges::rich, x -> x.type(0, b));
            refuses(-2, Edges::rich, x -> x.type(1, b));
        }
    }

    void promise2RefusesTextsBeyond() {
        for (int text : NO_TEXTS) {
            refuses(-2, Edges::rich, x -> x.type(text, 's'));
            refuses(-2, Edges::rich, x -> x.type(text, '0'));
        }
    }

    void promise2SingersAreFullWith39Bytes() {
        TrainNote x = new TrainNote();
        for (int n = 1; n <= 39; n++) {
            is(n, x.type(0, EIGHT.charAt(n - 1)));
        }
        is(8, x.count(0));
        is(-4, x.type(0, ';'));
        refuses(-4, Edges::full, y -> y.type(0, ';'));
        refuses(-4, Edges::full, y -> y.type(0, 0));
        refuses(-4, Edges::full, y -> y.type(0, 255));
    }

    void promise2TheSongIsFullWith24Bytes() {
        TrainNote x = new TrainNote();
        for (int n = 1; n <= 24; n++) {
            is(n, x.type(1, 's'));
        }
        is(24, x.count(1));
        is(-4, x.type(1, 's'));
        refuses(-4, Edges::full, y -> y.type(1, 's'));
        refuses(-4, Edges::full, y -> y.type(1, 0));
        refuses(-4, Edges::full, y -> y.type(1, 255));
    }

    void promise2WithAFaultATextIsFullAsEver() {
        TrainNote x = new TrainNote();
        for (int n = 1; n <= 39; n++) {
            is(n, x.type(0, 'x'));
        }
        is(-4, x.type(0, '0'));
        for (int n = 1; n <= 24; n++) {
            is(n, x.type(1, 'x'));
        }
        is(-4, x.type(1, 's'));
    }

    void promise2BadComesBeforeFull() {
        for (int b : new int[] {-1, 256, LEAST, MOST}) {
            refuses(-2, Edges::full, x -> x.type(0, b));
            refuses(-2, Edges::full, x -> x.type(1, b));
        }
        for (int text : NO_TEXTS) {
            refuses(-2, Edges::full, x -> x.type(text, 's'));
            refuses(-2, Edges::full, x -> x.type(text, 256));
        }
    }

    void promise2EachTextHasItsOwnRoom() {
        TrainNote x = of(EIGHT, "");
        is(-4, x.type(0, 's'));
        is(1, x.type(1, 's'));
        x = of("", LONG_SONG);
        is(-4, x.type(1, '0'));
        is(1, x.type(0, '0'));
    }

    void promise2ThereIsRoomAgainBehindUndoAndWipe() {
        TrainNote x = of(EIGHT, LONG_SONG);
        x.undo(0);
        is(39, x.type(0, 'n'));
        is(0, x.singer(7, 3));
        is(-4, x.type(0, 'h'));
        x.wipe(1);
        is(1, x.type(1, 'e'));
        is(2, x.bar(0));
    }

    // ---- 3 wipe

    void promise3AnEmptyTextHadNone() {
        TrainNote x = new TrainNote();
        is(0, x.wipe(0));
        is(0, x.wipe(1));
        sameBeside8(new TrainNote(), x);
    }

    void promise3AFullTextHadAll() {
        TrainNote x = full();
        is(39, x.wipe(0));
        is(24, x.wipe(1));
        is(0, x.wipe(0));
        is(0, x.wipe(1));
        is(0, x.count(2));
        is(0, x.count(3));
    }

    void promise3ATextWithAFaultHadItsBytes() {
        TrainNote x = of("01x", "s!");
        is(3, x.wipe(0));
        is(2, x.wipe(1));
        is(-1, x.fault(0));
        is(-1, x.fault(1));
    }

    void promise3WipesThatTextAlone() {
        TrainNote x = rich();
        TrainNote y = rich();
        is(29, x.wipe(0));
        is(0, x.count(0));
        is(9, x.count(1));
        put(x, 0, EIGHT.substring(0, 29));
        sameBeside8(y, x);
        x = rich();
        is(9, x.wipe(1));
        is(0, x.count(1));
        is(6, x.count(0));
        put(x, 1, "srsrresrs");
        sameBeside8(rich(), x);
    }

    void promise3RefusesTextsBeyond() {
        for (int text : NO_TEXTS) {
            refuses(-2, Edges::rich, x -> x.wipe(text));
            refuses(-2, TrainNote::new, x -> x.wipe(text));
        }
    }

    // ---- 4 undo

    void promise4TheLastByteOfAFullTextIsUndone() {
        TrainNote x = full();
        is(38, x.undo(0));
        is(38, x.fault(0));
        is(23, x.undo(1));
        is(23, x.count(1));
    }

    void promise4TheOnlyByteIsUndone() {
        TrainNote x = of("0", "s");
        is(0, x.undo(0));
        is(0, x.undo(1));
        sameBeside8(new TrainNote(), x);
    }

    void promise4AnEmptyTextIsRefused() {
        refuses(-3, TrainNote::new, x -> x.undo(0));
        refuses(-3, TrainNote::new, x -> x.undo(1));
        refuses(-3, () -> of("", "sr"), x -> x.undo(0));
        refuses(-3, () -> of("021h", ""), x -> x.undo(1));
    }

    void promise4BadComesBeforeNot() {
        for (int text : NO_TEXTS) {
            refuses(-2, TrainNote::new, x -> x.undo(text));
            refuses(-2, Edges::rich, x -> x.undo(text));
        }
    }

    void promise4WhatWasTypedIsAsBefore() {
        for (int b : new int[] {0, '0', ';', 'h', 's', 255}) {
            TrainNote x = rich();
            x.type(0, b);
            is(29, x.undo(0));
            x.type(1, b);
            is(9, x.undo(1));
            sameBeside8(rich(), x);
        }
    }

    void promise4TheFirstByteOfASecondSingerIsUndone() {
        TrainNote x = withSingers("021h;3");
        is(0, x.count(0));
        is(5, x.undo(0));
        is(0, x.count(0));
        is(4, x.undo(0));
        is(1, x.count(0));
    }

    // ---- 5 fault

    void promise5AnEmptyTextIsWell() {
        TrainNote x = new TrainNote();
        is(-1, x.fault(0));
        is(-1, x.fault(1));
        x = of("021h", "s");
        x.wipe(0);
        x.undo(1);
        is(-1, x.fault(0));
        is(-1, x.fault(1));
    }

    void promise5SingersThatAreNotEndedHaveItAtTheirEnd() {
        TrainNote x = new TrainNote();
        for (int n = 1; n <= 39; n++) {
            x.type(0, EIGHT.charAt(n - 1));
            is(n % 5 == 4 ? -1 : n, x.fault(0));
            is(n % 5 == 4 ? (n + 1) / 5 : 0, x.count(0));
        }
    }

    void promise5ASongIsEndedBehindEachByte() {
        TrainNote x = new TrainNote();
        for (int n = 1; n <= 24; n++) {
            x.type(1, LONG_SONG.charAt(n - 1));
            is(-1, x.fault(1));
            is(n, x.count(1));
        }
    }

    void promise5EachPlaceOfTheSingersMayHaveIt() {
        for (int at = 0; at < 39; at++) {
            is(at, withSingers(EIGHT.substring(0, at) + "x" + EIGHT.substring(at + 1)).fault(0));
            is(at, withSingers(EIGHT.substring(0, at) + "x").fault(0));
        }
    }

    void promise5EachPlaceOfTheSongMayHaveIt() {
        for (int at = 0; at < 24; at++) {
            is(at, withSong(LONG_SONG.substring(0, at) + "x" + LONG_SONG.substring(at + 1)).fault(1));
            is(at, withSong(LONG_SONG.substring(0, at) + "x").fault(1));
        }
    }

    void promise5TheFirstOfTwoIsTold() {
        is(1, withSingers("0x2x").fault(0));
        is(3, withSingers("000;x").fault(0));
        is(0, withSingers("xx").fault(0));
        is(1, withSong("sxrx").fault(1));
        is(5, withSingers("000h;;00h").fault(0));
    }

    void promise5AWrongByteComesBeforeTheEnd() {
        is(0, withSingers("x").fault(0));
        is(4, withSingers("000hx").fault(0));
        is(5, withSingers("000h;x").fault(0));
        is(38, withSingers(EIGHT.substring(0, 38) + ";").fault(0));
    }

    void promise5FiguresAre0To9() {
        for (int at = 0; at < 3; at++) {
            for (int b = 0; b <= 255; b++) {
                TrainNote x = withSingers("000".substring(0, at));
                x.type(0, b);
                boolean isFigure = b >= 48 && b <= 57;
                is(isFigure ? at + 1 : at, x.fault(0));
            }
        }
    }

    void promise5TheFourthIsHOrN() {
        for (int b = 0; b <= 255; b++) {
            TrainNote x = withSingers("000");
            x.type(0, b);
            is(b == 104 || b == 110 ? -1 : 3, x.fault(0));
            is(b == 104 || b == 110 ? 1 : 0, x.count(0));
        }
    }

    void promise5BetweenSingersIsOneSign() {
        for (int b = 0; b <= 255; b++) {
            TrainNote x = withSingers("000h");
            x.type(0, b);
            is(b == 59 ? 5 : 4, x.fault(0));
        }
        is(0, withSingers(";000h").fault(0));
        is(10, withSingers("000h;000h;").fault(0));
    }

    void promise5BarsAreSROrE() {
        for (int b = 0; b <= 255; b++) {
            TrainNote x = withSong("s");
            x.type(1, b);
            is(b == 115 || b == 114 || b == 101 ? -1 : 1, x.fault(1));
        }
    }

    void promise5AnEighthSingerIsWellAndANinthIsNeverTyped() {
        TrainNote x = withSingers(EIGHT);
        is(-1, x.fault(0));
        is(8, x.count(0));
        is(-4, x.type(0, ';'));
        is(-4, x.type(0, '0'));
        is(-1, x.fault(0));
        is(8, x.count(0));
    }

    void promise5RefusesTextsBeyond() {
        for (int text : NO_TEXTS) {
            refuses(-2, Edges::rich, x -> x.fault(text));
            refuses(-2, TrainNote::new, x -> x.fault(text));
        }
    }

    void promise5SingersWithAFaultAreAsNone() {
        for (String wrong : new String[] {"021h;334h;", "021h;334x", "x21h;334h", "021h;334"}) {
            TrainNote x = of(wrong, "srs");
            is(0, x.count(0));
            is(0, x.count(4));
            is(-2, x.singer(0, 0));
            is(-2, x.ear(0, 0));
            is(-10002, x.note(0, 0));
            is(-10002, x.away(0, 0));
            is(0, x.chord(0, 0));
            is(1, x.chord(0, 1));
            is(-1, x.chord(0, 2));
            is(-1, x.open(0));
            is(0, x.stand(0, -1));
            is(-1, x.stand(0, 0));
            is(0, x.hush(0, 1));
            is(0, x.drive(0, 1));
            is(-1, x.ask());
            is(1, x.herd(2, 5, 0, 0));
            is(20, x.times(7, 20, 0));
            x.sheet(0, 2, 3);
            is(0, x.write(0, 0));
            x.heard(0, 0, 1042);
            is(0, x.speeds(-1));
            is(0, x.cows());
            is(3, x.count(1));
            is(-1, x.fault(1));
        }
    }

    void promise5ASongWithAFaultIsAsNone() {
        for (String wrong : new String[] {"srsx", "xsrs", "S", "s;"}) {
            TrainNote x = of("021h;334h", wrong);
            is(0, x.count(1));
            is(0, x.count(5));
            is(-1, x.bar(0));
            is(-10002, x.note(0, 0));
            is(-10002, x.away(0, 0));
            is(-2, x.chord(0, 0));
            is(-1, x.open(0));
            is(0, x.open(1));
            is(-2, x.stand(0, -1));
            is(-2, x.hush(0, 0));
            is(-2, x.drive(0, 0));
            is(BAD_LONG, x.herd(0, 0, 0, 0));
            is(-2, x.times(0, 1, 0));
            x.sheet(0, 2, 3);
            is(-2, x.write(0, 0));
            x.heard(0, 0, 1042);
            is(0, x.speeds(-1));
            is(0, x.cows());
            is(2, x.count(0));
            is(-1, x.fault(0));
            is(3, x.singer(1, 0));
        }
    }

    // ---- 6 singer

    void promise6TheFirstAndTheLastOfEightAreTold() {
        TrainNote x = withSingers("012h;" + EIGHT.substring(5, 35) + "987n");
        int[] first = {0, 1, 2, 1};
        int[] last = {9, 8, 7, 0};
        for (int what = 0; what < 4; what++) {
            is(first[what], x.singer(0, what));
            is(last[what], x.singer(7, what));
        }
    }

    void promise6FiguresMayBe0And9() {
        TrainNote x = withSingers("000h;999n");
        for (int what = 0; what < 3; what++) {
            is(0, x.singer(0, what));
            is(9, x.singer(1, what));
        }
        is(1, x.singer(0, 3));
        is(0, x.singer(1, 3));
    }

    void promise6RefusesSingersBeyond() {
        for (int what = 0; what < 4; what++) {
            int asked = what;
            for (int i : new int[] {-1, 6, 7, 8, LEAST, MOST}) {
                refuses(-2, Edges::rich, x -> x.singer(i, asked));
            }
            for (int i : new int[] {-1, 8, 9, LEAST, MOST}) {
                refuses(-2, Edges::full, x -> x.singer(i, asked));
            }
            for (int i : new int[] {-1, 0, 1}) {
                refuses(-2, TrainNote::new, x -> x.singer(i, asked));
            }
        }
    }

    void promise6RefusesAnyOtherWhat() {
        for (int what : new int[] {-1, 4, LEAST, MOST}) {
            refuses(-2, Edges::rich, x -> x.singer(0, what));
            refuses(-2, Edges::rich, x -> x.singer(6, what));
        }
    }

    // ---- 7 bar

    void promise7TellsEachKind() {
        TrainNote x = withSong("sre");
        is(0, x.bar(0));
        is(1, x.bar(1));
        is(2, x.bar(2));
    }

    void promise7TheFirstAndTheLastOf24AreTold() {
        TrainNote x = withSong("rssssssssssssssssssssssr");
        is(1, x.bar(0));
        is(0, x.bar(1));
        is(0, x.bar(22));
        is(1, x.bar(23));
    }

    void promise7BehindTheLastThereIsNone() {
        TrainNote x = withSong("sre");
        for (int bar = 3; bar < 24; bar++) {
            is(-1, x.bar(bar));
        }
        x = withSong(LONG_SONG.substring(0, 23));
        is(0, x.bar(0));
        is(-1, x.bar(23));
    }

    void promise7OfNoSongThereIsNone() {
        TrainNote x = new TrainNote();
        is(-1, x.bar(0));
        is(-1, x.bar(23));
    }

    void promise7RefusesBarsBeyond() {
        for (int bar : new int[] {-1, 24, 25, LEAST, MOST}) {
            refuses(-2, Edges::full, x -> x.bar(bar));
            refuses(-2, Edges::rich, x -> x.bar(bar));
            refuses(-2, TrainNote::new, x -> x.bar(bar));
        }
    }

    // ---- 8 set

    private static final int[] AT_FIRST = {40, 0, 9, 10}, LAST = {99, 9, 18, 99};

    void promise8TakesTheFirstAndTheLastOfEach() {
        for (int what = 0; what < 4; what++) {
            TrainNote x = new TrainNote();
            is(AT_FIRST[what], x.set(what, 0));
            is(0, x.set(what, LAST[what]));
            is(LAST[what], x.set(what, LAST[what]));
            is(LAST[what], x.set(what, 1));
            is(1, x.set(what, 0));
        }
    }

    void promise8RefusesNumbersBeyond() {
        for (int what = 0; what < 4; what++) {
            int asked = what;
            for (int v : new int[] {-1, LAST[what] + 1, LEAST, MOST}) {
                refuses(-2, Edges::rich, x -> x.set(asked, v));
                refuses(-2, TrainNote::new, x -> x.set(asked, v));
            }
        }
    }

    void promise8RefusesAnyOtherWhat() {
        for (int what : new int[] {-1, 4, LEAST, MOST}) {
            refuses(-2, Edges::rich, x -> x.set(what, 0));
            refuses(-2, Edges::rich, x -> x.set(what, -1));
            refuses(-2, Edges::rich, x -> x.set(what, 100));
        }
    }

    void promise8ChangesThatOneAlone() {
        for (int what = 0; what < 4; what++) {
            TrainNote x = new TrainNote();
            x.set(what, 7);
            for (int other = 0; other < 4; other++) {
                is(other == what ? 7 : AT_FIRST[other], x.set(other, 0));
            }
        }
    }

    void promise8OnlySpeedIsCounted() {
        TrainNote x = train(new TrainNote(), 0, 9, 18, 99);
        is(0, x.count(6));
        x.set(0, 99);
        is(99, x.count(6));
    }
}
