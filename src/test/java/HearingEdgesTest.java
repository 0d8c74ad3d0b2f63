import java.math.BigInteger;

/** Edges of promises 18 to 25: what was HEARD, SPEEDS and COWS by it, whom to ask, HERD and TIMES. */
public final class HearingEdgesTest extends Edges {
    private static final int[] NO_BARS = {-1, 9, 23, 24, LEAST, MOST};
    private static final String RESTS = "rrrrrrrrrrrrrrrrrrrrrrrs";

    public static void main(String[] args) {
        new HearingEdgesTest().run(18, 25);
    }

    private static TrainNote hearing(String singers, int bar, int singer, int note) {
        TrainNote x = of(singers, "srs");
        x.heard(bar, singer, note);
        return x;
    }

    // ---- 18 heard

    void promise18TakesTheFirstAndTheLastOfEach() {
        TrainNote x = new TrainNote();
        is(1, x.heard(0, 0, 0));
        is(2, x.heard(23, 0, 0));
        is(3, x.heard(0, 7, 0));
        is(4, x.heard(0, 0, 2000));
        is(5, x.heard(23, 7, 2000));
    }

    void promise18RefusesNumbersBeyond() {
        for (int bar : new int[] {-1, 24, LEAST, MOST}) {
            refuses(-2, Edges::rich, x -> x.heard(bar, 0, 1000));
        }
        for (int i : new int[] {-1, 8, LEAST, MOST}) {
            refuses(-2, Edges::rich, x -> x.heard(0, i, 1000));
        }
        for (int note : new int[] {-1, 2001, -10000, LEAST, MOST}) {
            refuses(-2, Edges::rich, x -> x.heard(0, 0, note));
        }
        refuses(-2, Edges::rich, x -> x.heard(24, 8, 2001));
    }

    void promise18EightAreFull() {
        TrainNote x = new TrainNote();
        for (int n = 1; n <= 8; n++) {
            is(n, x.heard(0, 0, 1000));
        }
        is(-4, x.heard(0, 0, 1000));
        is(8, x.count(7));
        refuses(-4, Edges::full, y -> y.heard(0, 0, 0));
        refuses(-4, Edges::full, y -> y.heard(23, 7, 2000));
    }

    void promise18BadComesBeforeFull() {
        refuses(-2, Edges::full, x -> x.heard(24, 0, 0));
        refuses(-2, Edges::full, x -> x.heard(-1, 0, 0));
        refuses(-2, Edges::full, x -> x.heard(0, 8, 0));
        refuses(-2, Edges::full, x -> x.heard(0, -1, 0));
        refuses(-2, Edges::full, x -> x.heard(0, 0, 2001));
        refuses(-2, Edges::full, x -> x.heard(0, 0, -1));
    }

    void promise18MayBeOfSingersAndBarsThatThereAreNot() {
        TrainNote x = of("400h", "s");
        is(1, x.heard(1, 0, 1000));
        is(2, x.heard(0, 1, 1000));
        is(0, x.speeds(-1));
        put(x, 0, "400h;400h");
        put(x, 1, "ss");
        is(100, x.speeds(-1));
    }

    void promise18TheLastOfEightCounts() {
        TrainNote x = of("000h", "s");
        for (int n = 1; n <= 7; n++) {
            x.heard(0, 0, 1040);
        }
        is(1, x.speeds(-1));
        x.heard(0, 0, 1041);
        is(0, x.speeds(-1));
    }

    // ---- 19 forget

    void promise19NothingIsForgottenTwice() {
        TrainNote x = new TrainNote();
        is(0, x.forget());
        x.heard(0, 0, 0);
        is(1, x.forget());
        is(0, x.forget());
        is(0, x.count(7));
    }

    void promise19AllOfEightAreForgotten() {
        TrainNote x = full();
        is(8, x.forget());
        is(0, x.count(7));
        is(100, x.speeds(-1));
        is(1023, x.cows());
        for (int n = 1; n <= 8; n++) {
            is(n, x.heard(0, 0, 1));
        }
        is(-4, x.heard(0, 0, 1));
    }

    void promise19NothingElseIsForgotten() {
        TrainNote x = rich();
        TrainNote y = rich();
        is(2, x.forget());
        is(4, x.count(8));
        x.heard(0, 0, x.note(0, 0));
        x.heard(2, 1, x.note(1, 2));
        sameBeside8(y, x);
    }

    // ---- 20 read

    private static TrainNote withRow(int form, int... items) {
        TrainNote x = of("000h;100h", "s");
        row(x, 3, form, items);
        return x;
    }

    void promise20ThreeItemsAreOneAndFewerAreNone() {
        for (int items = 0; items <= 60; items++) {
            TrainNote x = new TrainNote();
            x.sheet(0, 2, items);
            is(Math.min(8, items / 3), x.read(0));
            is(Math.min(8, items / 3), x.count(7));
        }
    }

    void promise20TakesTheFirstAndTheLastOfEach() {
        is(3, withRow(2, 0, 0, 0, 23, 7, 2000, 23, 0, 2000).read(3));
        is(2, withRow(1, 0, 0, 0, 23, 7, 2000).read(3));
        is(2, withRow(0, 0, 0, 0, 23, 7, 127).read(3));
    }

    void promise20EndsBeforeTheFirstThatMayNotBe() {
        int[][] wrong = {{-1, 0, 0}, {24, 0, 0}, {0, -1, 0}, {0, 8, 0}, {0, 0, -1}, {0, 0, 2001}, {LEAST, 0, 0},
            {0, MOST, 0}, {0, 0, MOST}};
        for (int[] w : wrong) {
            TrainNote x = withRow(2, 0, 0, 1040, w[0], w[1], w[2], 0, 0, 1041);
            is(1, x.read(3));
            is(1, x.count(7));
            is(40, x.speeds(0));
            x = withRow(2, w[0], w[1], w[2], 0, 0, 1040);
            is(0, x.read(3));
            is(0, x.count(7));
        }
    }

    void promise20EndsWhereHeardIsFull() {
        TrainNote x = withRow(2, 0, 0, 1, 0, 0, 2, 0, 0, 3);
        for (int n = 1; n <= 6; n++) {
            x.heard(0, 0, 5);
        }
        is(2, x.read(3));
        is(8, x.count(7));
        is(0, x.read(3));
        is(8, x.count(7));
        onlyAsks(0, Edges::full, y -> y.read(0));
        onlyAsks(0, Edges::full, y -> y.read(3));
    }

    void promise20AddsToWhatWasHeard() {
        TrainNote x = withRow(1, 0, 1, 1030);
        x.heard(0, 0, 1040);
        is(1, x.read(3));
        is(2, x.count(7));
        is(1, x.speeds(-1));
        is(40, x.speeds(0));
        x.heard(0, 0, 1041);
        is(0, x.speeds(-1));
    }

    void promise20TheSheetIsAsItWas() {
        TrainNote x = withRow(1, 0, 1, 1030, 7);
        x.read(3);
        int[] items = {0, 1, 1030, 7};
        for (int i = 0; i < 4; i++) {
            is(items[i], x.get(3, 1, i));
        }
        is(4, x.lose(3));
    }

    void promise20BytesAndShortsMayBeBelow0() {
        is(0, withRow(0, 0, 0, 128).read(3));
        is(0, withRow(0, 255, 0, 0).read(3));
        is(0, withRow(1, 0, 0, 65535).read(3));
        is(1, withRow(0, 256, 256, 256).read(3));
    }

    void promise20FindsALostSheet() {
        finds(NULL, Edges::rich, x -> x.read(3));
        for (int s = 0; s < 4; s++) {
            int asked = s;
            finds(NULL, TrainNote::new, x -> x.read(asked));
        }
    }

    void promise20RefusesSheetsBeyond() {
        for (int s : new int[] {-1, 4, LEAST, MOST}) {
            refuses(-2, Edges::rich, x -> x.read(s));
            refuses(-2, TrainNote::new, x -> x.read(s));
        }
    }

    // ---- 21 speeds

    void promise21WhereNothingWasHeardItIsAll() {
        TrainNote x = new TrainNote();
        is(100, x.speeds(-1));
        for (int i = 0; i <= 99; i++) {
            is(i, x.speeds(i));
        }
    }

    void promise21TheFirstIs0AndTheLastIs99() {
        TrainNote x = hearing("000h", 0, 0, 1000);
        is(1, x.speeds(-1));
        is(0, x.speeds(0));
        x = hearing("000h", 0, 0, 1099);
        is(1, x.speeds(-1));
        is(99, x.speeds(0));
        is(0, hearing("000h", 0, 0, 999).speeds(-1));
        is(0, hearing("000h", 0, 0, 1100).speeds(-1));
    }

    void promise21BehindTheLastThereIsNone() {
        TrainNote x = hearing("000h", 0, 0, 1040);
        is(40, x.speeds(0));
        is(-1, x.speeds(1));
        is(-1, x.speeds(99));
        // A fourth less, cut: by 43 and by 44 it is 1033.
        x = hearing("100h", 0, 0, 1033);
        is(2, x.speeds(-1));
        is(43, x.speeds(0));
        is(44, x.speeds(1));
        is(-1, x.speeds(2));
    }

    void promise21ThereMayBeNone() {
        TrainNote x = hearing("000h", 0, 0, 0);
        is(0, x.speeds(-1));
        is(-1, x.speeds(0));
        is(-1, x.speeds(99));
        is(0, hearing("000h", 0, 0, 2000).speeds(-1));
    }

    void promise21AllThatWasHeardMustComeOut() {
        TrainNote x = hearing("000h;400h", 0, 0, 1040);
        x.heard(0, 1, 1000);
        is(1, x.speeds(-1));
        x.heard(0, 1, 1001);
        is(0, x.speeds(-1));
    }

    void promise21OfSingersThatThereAreNotNever() {
        is(100, hearing("400h", 0, 0, 1000).speeds(-1));
        is(0, hearing("400h", 0, 1, 1000).speeds(-1));
        is(0, hearing("400h", 0, 7, 1000).speeds(-1));
        is(0, hearing("", 0, 0, 1000).speeds(-1));
    }

    void promise21OfBarsThatThereAreNotNever() {
        is(100, hearing("400h", 2, 0, 1000).speeds(-1));
        is(0, hearing("400h", 3, 0, 1000).speeds(-1));
        is(0, hearing("400h", 23, 0, 1000).speeds(-1));
    }

    void promise21OfSilentOnesNever() {
        for (int note : new int[] {0, 1000, 2000}) {
            is(0, hearing("400n", 0, 0, note).speeds(-1));
        }
    }

    void promise21InARestItIsTheNoteThen() {
        is(100, hearing("409h", 1, 0, 1000).speeds(-1));
        is(0, hearing("409h", 2, 0, 1000).speeds(-1));
        is(100, hearing("409h", 2, 0, 991).speeds(-1));
    }

    void promise21TheTrainIsAsItWas() {
        onlyAsks(rich().speeds(-1), Edges::rich, x -> x.speeds(-1));
        onlyAsks(33, Edges::rich, x -> x.speeds(0));
    }

    void promise21RefusesAnyOtherI() {
        for (int i : new int[] {-2, 100, LEAST, MOST}) {
            refuses(-2, Edges::rich, x -> x.speeds(i));
            refuses(-2, TrainNote::new, x -> x.speeds(i));
            refuses(-2, () -> hearing("", 0, 0, 0), x -> x.speeds(i));
        }
    }

    // ---- 22 cows

    void promise22WhereNothingWasHeardItIsAll() {
        is(1023, new TrainNote().cows());
    }

    void promise22TheFirstBitIs0AndTheLastIs9() {
        is(1, hearing("000h", 0, 0, 1040).cows());
        is(512, hearing("000h", 0, 0, 950).cows());
        is(0, hearing("000h", 0, 0, 1050).cows());
        is(0, hearing("000h", 0, 0, 940).cows());
    }

    void promise22EachBitByItself() {
        for (int early = 0; early <= 9; early++) {
            is(1 << early, hearing("000h", 0, 0, 1040 - 10 * early).cows());
        }
    }

    void promise22SomeMayBeLike() {
        TrainNote x = train(hearing("000h", 0, 0, 1001), 1);
        is(15, x.cows());
        x = train(hearing("000h", 0, 0, 999), 1);
        is(768, x.cows());
        is(1023, train(hearing("000h", 0, 0, 1000), 0).cows());
    }

    void promise22ItsOwnEarlyDoesNotMatter() {
        TrainNote x = hearing("000h", 0, 0, 1000);
        for (int early = 0; early <= 9; early++) {
            x.set(1, early);
            is(16, x.cows());
            is(early, x.set(1, early));
        }
    }

    void promise22OfOthersNever() {
        is(0, train(hearing("400h", 0, 1, 1000), 0).cows());
        is(0, train(hearing("400h", 3, 0, 1000), 0).cows());
        is(0, train(hearing("400n", 0, 0, 1000), 0).cows());
        is(1023, train(hearing("400h", 2, 0, 1000), 0).cows());
    }

    void promise22TheTrainIsAsItWas() {
        onlyAsks(4, Edges::rich, TrainNote::cows);
    }

    // ---- 23 ask

    void promise23OfNoSingersThereIsNone() {
        is(-1, new TrainNote().ask());
        is(-1, hearing("", 0, 0, 0).ask());
        is(-1, of("400h;", "s").ask());
    }

    void promise23TheGreatestNumberIsLeast() {
        // All 100 are like at PLACE 4, by fours at 5, by twos at 1, each is its own at 0.
        is(0, of("400h", "s").ask());
        is(1, of("400h;500h", "s").ask());
        is(2, of("400h;500h;100h", "s").ask());
        is(3, of("400h;500h;100h;000h", "s").ask());
        is(0, of("000h;100h;500h;400h", "s").ask());
    }

    void promise23TheLastOfEight() {
        is(7, of("400h;400h;400h;400h;400h;400h;400h;000h", "s").ask());
    }

    void promise23OfLikeOnesTheLeast() {
        is(0, of("800h;000h;900h", "s").ask());
        is(1, of("400h;100h;200h;600h;700h", "s").ask());
        is(1, of("400h;300h;500h", "s").ask());
        is(0, of("400h;490h;400n", "s").ask());
    }

    void promise23ItIsTheNoteAtFirst() {
        is(0, of("009h;000h", RESTS).ask());
        is(0, of("009h;000h", "").ask());
    }

    void promise23EarlyIsAsItIs() {
        TrainNote x = of("000h;400h", "s");
        is(0, x.ask());
        x.set(1, 4);
        is(1, x.ask());
    }

    void promise23ASilentOneIsAlikeByAll() {
        is(2, of("900n;900n;500h", "s").ask());
        is(0, of("900n;900n;400h", "s").ask());
        is(0, of("500n", "s").ask());
    }

    void promise23OneSpeedOrNoneTellsTheFirst() {
        TrainNote x = hearing("400h;000h", 0, 1, 1040);
        is(1, x.speeds(-1));
        is(0, x.ask());
        x.heard(0, 1, 1041);
        is(0, x.speeds(-1));
        is(0, x.ask());
        put(x, 0, "500n");
        is(0, x.ask());
    }

    void promise23OfTwoSpeedsOneThatTellsThemApart() {
        // By 46 and by 47 it is 977 at PLACE 6, not the same at PLACES 2 and 1.
        TrainNote x = hearing("600h;200h;100h", 0, 0, 977);
        is(2, x.speeds(-1));
        is(1, x.ask());
        put(x, 0, "600h;400h;600n");
        is(2, x.speeds(-1));
        is(0, x.ask());
    }

    void promise23NothingChangesByAsking() {
        onlyAsks(rich().ask(), Edges::rich, TrainNote::ask);
    }

    // ---- 24 herd

    private void chance(long above, long below, TrainNote x, int n, int c) {
        is(above, x.herd(n, c, 0, 0));
        is(below, x.herd(n, c, 0, 1));
    }

    /** It closes by 0, 4 and 8 cows. */
    private static TrainNote byFours() {
        return train(of("000h;300h", "sre"), 1, 7, 9, 0);
    }

    void promise24NoCowsAreEarlyBy0() {
        chance(1, 1, byFours(), 0, 0);
        chance(1, 1, byFours(), 0, 8);
        chance(1, 1, byFours(), 0, 16);
        TrainNote x = train(of("000h;300h", "s"), 40, 0, 9, 0);
        chance(0, 1, x, 0, 0);
        chance(0, 1, x, 0, 16);
    }

    void promise24NineCows() {
        // 15 to the 9, 126 times 15 to the 5 and 9 times 15, of 16 to the 9, both by 8.
        chance(4817380095L, 8589934592L, byFours(), 9, 1);
        chance(2884049297L, 8589934592L, byFours(), 9, 15);
        chance(17, 64, byFours(), 9, 8);
    }

    void promise24By0And16SixteenthsItIsSure() {
        for (int n = 0; n <= 9; n++) {
            chance(1, 1, byFours(), n, 0);
            chance(n % 4 == 0 ? 1 : 0, 1, byFours(), n, 16);
        }
    }

    void promise24LowestTerms() {
        chance(15, 16, byFours(), 1, 1);
        chance(1, 16, byFours(), 1, 15);
        chance(1, 2, byFours(), 1, 8);
        chance(3, 4, byFours(), 1, 4);
        chance(3375, 4096, byFours(), 3, 1);
        chance(1, 8, byFours(), 3, 8);
        chance(1, 8, byFours(), 4, 8);
    }

    void promise24NeverIs0By1AndAlwaysIs1By1() {
        TrainNote never = of("000h;900h", "s");
        TrainNote always = of("400h;400h", "s");
        for (int n = 0; n <= 9; n++) {
            chance(0, 1, never, n, 5);
            chance(1, 1, always, n, 5);
            chance(1, 1, of("", "s"), n, 5);
        }
    }

    void promise24ItsOwnEarlyDoesNotMatter() {
        TrainNote x = byFours();
        for (int early = 0; early <= 9; early++) {
            x.set(1, early);
            chance(3375, 4096, x, 3, 1);
            is(early, x.set(1, early));
        }
    }

    void promise24TheFirstAndTheLastBar() {
        TrainNote x = of("400h;409h", "s" + RESTS.substring(1));
        is(1, x.herd(2, 3, 0, 0));
        is(0, x.herd(2, 3, 23, 0));
        is(1, byFours().herd(3, 8, 2, 0));
        is(8, byFours().herd(3, 8, 2, 1));
    }

    void promise24RefusesNumbersBeyond() {
        for (int what = 0; what < 2; what++) {
            int asked = what;
            for (int n : new int[] {-1, 10, LEAST, MOST}) {
                refuses(BAD_LONG, Edges::rich, x -> x.herd(n, 5, 0, asked));
            }
            for (int c : new int[] {-1, 17, LEAST, MOST}) {
                refuses(BAD_LONG, Edges::rich, x -> x.herd(3, c, 0, asked));
                refuses(BAD_LONG, Edges::rich, x -> x.herd(0, c, 0, asked));
            }
            for (int bar : NO_BARS) {
                refuses(BAD_LONG, Edges::rich, x -> x.herd(3, 5, bar, asked));
            }
            refuses(BAD_LONG, Edges::full, x -> x.herd(3, 5, 24, asked));
            refuses(BAD_LONG, TrainNote::new, x -> x.herd(0, 0, 0, asked));
        }
    }

    void promise24RefusesARest() {
        refuses(BAD_LONG, Edges::rich, x -> x.herd(3, 5, 1, 0));
        refuses(BAD_LONG, Edges::rich, x -> x.herd(3, 5, 1, 1));
        refuses(BAD_LONG, Edges::full, x -> x.herd(3, 5, 23, 0));
        refuses(BAD_LONG, Edges::rich, x -> x.herd(10, 17, 1, 2));
    }

    void promise24RefusesAnyOtherWhat() {
        for (int what : new int[] {-1, 2, LEAST, MOST}) {
            refuses(BAD_LONG, Edges::rich, x -> x.herd(3, 5, 0, what));
        }
    }

    void promise24TheTrainIsAsItWas() {
        onlyAsks(rich().herd(3, 5, 0, 0), Edges::rich, x -> x.herd(3, 5, 0, 0));
    }

    // ---- 25 times

    /** It closes by SPEEDS up to CLOSE. */
    private static TrainNote upTo(int close) {
        return train(of("000h;400h", "sre"), 40, 0, 9, close);
    }

    private void firstSpeedIs(int speed, int seed) {
        is(1, upTo(speed).times(seed, 1, 0));
        if (speed > 0) {
            is(0, upTo(speed - 1).times(seed, 1, 0));
        }
    }

    void promise25LotsWrapAsInts() {
        firstSpeedIs(0, 0);
        firstSpeedIs(38, 1);
        firstSpeedIs(97, -1);
        firstSpeedIs(29, MOST);
        firstSpeedIs(68, LEAST);
    }

    void promise25TheUpper16BitsAreFrom0On() {
        // SEEDS that become -65536, -1, the least int, and 65536 less than that one wrapped.
        firstSpeedIs(35, 286434947);
        firstSpeedIs(35, 230538014);
        firstSpeedIs(68, 2088216195);
        firstSpeedIs(67, -1861048701);
    }

    void promise25LotsOf100Are0To99() {
        firstSpeedIs(99, 75933315);
        firstSpeedIs(0, -269769085);
    }

    void promise25EachTrainIsOfTwoLots() {
        // By SEED 1 the SPEEDS are 38, 13, 19, 78, 80.
        int[] first = {0, 1, 1, 1, 1};
        for (int n = 1; n <= 5; n++) {
            is(first[n - 1], upTo(13).times(1, n, 0));
            is(0, upTo(12).times(1, n, 0));
        }
        is(4, upTo(79).times(1, 5, 0));
        is(5, upTo(80).times(1, 5, 0));
    }

    void promise25OneAnd99Trains() {
        for (int seed : new int[] {0, 1, -1, 7, LEAST, MOST, 123456789}) {
            for (int close : new int[] {0, 40, 98, 99}) {
                is(closing(seed, 1, close), upTo(close).times(seed, 1, 0));
                is(closing(seed, 99, close), upTo(close).times(seed, 99, 0));
            }
            is(99, upTo(99).times(seed, 99, 2));
        }
    }

    /** By numbers that have no end, cut to 32 bits. */
    private static int closing(int seed, int n, int close) {
        BigInteger now = BigInteger.valueOf(seed);
        int sum = 0;
        for (int lot = 0; lot < 2 * n; lot++) {
            now = now.multiply(BigInteger.valueOf(1103515245)).add(BigInteger.valueOf(12345))
                .mod(BigInteger.ONE.shiftLeft(32));
            boolean isSpeed = lot % 2 == 0;
            sum += isSpeed && now.shiftRight(16).intValueExact() % 100 <= close ? 1 : 0;
        }
        return sum;
    }

    void promise25EarlyIsAsItIs() {
        // By SPEED 38 (SEED 1) a PLACE more is 9 less, or 10.
        TrainNote x = train(of("000h;100h", "s"), 40, 0, 9, 9);
        is(1, x.times(1, 1, 0));
        x.set(1, 1);
        is(0, x.times(1, 1, 0));
    }

    void promise25TheFirstAndTheLastBar() {
        TrainNote x = of("400h;409h", "s" + RESTS.substring(1));
        is(9, x.times(1, 9, 0));
        is(0, x.times(1, 9, 23));
    }

    void promise25OfNobodyAllClose() {
        is(99, train(of("", "s"), 40, 0, 9, 0).times(1, 99, 0));
        is(1, train(of("500n", "s"), 40, 0, 9, 0).times(1, 1, 0));
    }

    void promise25RefusesNumbersOfTrainsBeyond() {
        for (int n : new int[] {0, -1, 100, LEAST, MOST}) {
            refuses(-2, Edges::rich, x -> x.times(7, n, 0));
            refuses(-2, Edges::rich, x -> x.times(7, n, 1));
        }
    }

    void promise25RefusesBarsThatThereAreNot() {
        for (int bar : NO_BARS) {
            refuses(-2, Edges::rich, x -> x.times(7, 20, bar));
        }
        refuses(-2, Edges::full, x -> x.times(7, 20, 24));
        refuses(-2, TrainNote::new, x -> x.times(7, 20, 0));
    }

    void promise25RefusesARest() {
        refuses(-2, Edges::rich, x -> x.times(7, 20, 1));
        refuses(-2, Edges::full, x -> x.times(7, 20, 23));
    }

    void promise25TheTrainIsAsItWas() {
        onlyAsks(rich().times(7, 20, 0), Edges::rich, x -> x.times(7, 20, 0));
    }
}
