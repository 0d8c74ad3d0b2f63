/** Edges of promises 15 to 17: how they should stand, who should be silent, how fast it should be driven. */
public final class PlanEdgesTest extends Edges {
    private static final int[] NO_BARS = {-1, 9, 23, 24, LEAST, MOST};
    private static final String RESTS = "rrrrrrrrrrrrrrrrrrrrrrrs";

    public static void main(String[] args) {
        new PlanEdgesTest().run(15, 17);
    }

    /** By SPEED 8 a PLACE more is a note 2 less. */
    private static TrainNote slow(String singers, String song) {
        return train(of(singers, song), 8);
    }

    // ---- 15 stand

    private void stands(TrainNote x, int bar, int much, int... row) {
        is(much, x.stand(bar, -1));
        for (int i = 0; i < 5; i++) {
            is(i < row.length ? row[i] : -1, x.stand(bar, i));
        }
    }

    void promise15OfNoSingersThereIsNoRow() {
        stands(of("", "s"), 0, 0);
    }

    void promise15OneStaysWhereItIs() {
        stands(of("900h", "s"), 0, 0, 0);
        stands(of("900n", "s"), 0, 0, 0);
    }

    void promise15TheRowIsAsLongAsThereAreSingersUpTo5() {
        String all = "000h;102h;204h;306h;408h;400h;400h;400h";
        stands(slow(all.substring(0, 9), "rs"), 1, 0, 1, 0);
        stands(slow(all.substring(0, 14), "rs"), 1, 0, 2, 1, 0);
        stands(slow(all.substring(0, 19), "rs"), 1, 0, 3, 2, 1, 0);
        stands(slow(all.substring(0, 24), "rs"), 1, 0, 4, 3, 2, 1, 0);
        stands(slow(all.substring(0, 29), "rs"), 1, 0, 4, 3, 2, 1, 0);
        stands(slow(all, "rs"), 1, 0, 4, 3, 2, 1, 0);
    }

    void promise15TheFifthChangesAndTheOthersStay() {
        // Those apart are nearer by 18, if the one that sinks goes to the front.
        stands(of("000h;900h;900h;900h;909h", "rs"), 1, 81, 1, 2, 3, 4, 0);
        stands(of("900h;900h;900h;900h;909h;000h", "rs"), 1, 99, 0, 1, 2, 3, 4);
        stands(of("000h;900h;900h;900h;900h;909h", "rs"), 1, 99, 0, 1, 2, 3, 4);
        stands(of("900h;900h;900h;900h;900h;909h;000h", "rs"), 1, 99, 0, 1, 2, 3, 4);
        stands(of("900h;900h;900h;900h;900h;900h;000h;909h", "rs"), 1, 99, 0, 1, 2, 3, 4);
    }

    void promise15OfLikeOnesTheLeastRow() {
        stands(of("400h;400h;400h;400h;400h", "s"), 0, 0, 0, 1, 2, 3, 4);
        stands(of("000h;900h;000h;900h;500h", "s"), 0, 90, 0, 1, 2, 3, 4);
        // Those that sink by 4 go to the front in four ways.
        stands(slow("000h;204h;000h;204h", "rs"), 1, 0, 1, 0, 3, 2);
    }

    void promise15TheLeastIsTakenThoughItsRowIsTheLast() {
        stands(slow("000h;102h;204h;306h;408h", "rs"), 1, 0, 4, 3, 2, 1, 0);
        stands(slow("000h;102h;204h;306h;408h", "rs"), 0, 8, 0, 1, 2, 3, 4);
    }

    void promise15ByStandingOneMayBeSilent() {
        // Beside each other the two that do not hear are silent, and one alone is apart by nothing.
        stands(of("000h;320n;900n", "s"), 0, 0, 2, 0, 1);
    }

    void promise15RestsAndBarsEHaveARowToo() {
        TrainNote x = slow("000h;104h", "rre");
        stands(x, 0, 2, 0, 1);
        stands(x, 1, 2, 1, 0);
        stands(x, 2, 2, 0, 1);
    }

    void promise15TheLastOf24Bars() {
        stands(of("400h;409h", RESTS), 23, 207, 0, 1);
        stands(of("009h;900h", RESTS), 23, 117, 0, 1);
        stands(of("000h;909h", RESTS), 23, 117, 1, 0);
    }

    void promise15NobodyIsMovedByAsking() {
        onlyAsks(rich().stand(2, -1), Edges::rich, x -> x.stand(2, -1));
        onlyAsks(4, () -> slow("000h;102h;204h;306h;408h", "rs"), x -> x.stand(1, 0));
    }

    void promise15RefusesBarsThatThereAreNot() {
        for (int i = -1; i <= 4; i++) {
            int asked = i;
            for (int bar : NO_BARS) {
                refuses(-2, Edges::rich, x -> x.stand(bar, asked));
            }
            refuses(-2, Edges::full, x -> x.stand(24, asked));
            refuses(-2, TrainNote::new, x -> x.stand(0, asked));
        }
    }

    void promise15RefusesAnyOtherI() {
        for (int i : new int[] {-2, 5, 8, LEAST, MOST}) {
            refuses(-2, Edges::rich, x -> x.stand(0, i));
            refuses(-2, Edges::full, x -> x.stand(0, i));
            refuses(-2, () -> of("", "s"), x -> x.stand(0, i));
            refuses(-2, Edges::rich, x -> x.stand(9, i));
        }
    }

    void promise15BadComesBeforeNone() {
        refuses(-2, () -> of("", "s"), x -> x.stand(1, 4));
        refuses(-2, () -> of("400h", "s"), x -> x.stand(-1, 1));
    }

    // ---- 16 hush

    private void hushes(TrainNote x, int bar, int howMany, int bits) {
        is(howMany, x.hush(bar, 0));
        is(bits, x.hush(bar, 1));
    }

    void promise16NobodyIsHushedWhereItCloses() {
        hushes(of("", "s"), 0, 0, 0);
        hushes(of("090h", "s"), 0, 0, 0);
        hushes(of("000h;100h", "s"), 0, 0, 0);
    }

    void promise16UpToCloseAndNotBeyond() {
        TrainNote x = of("000h;100h", "s");
        x.set(3, 10);
        hushes(x, 0, 0, 0);
        x.set(3, 9);
        hushes(x, 0, 1, 1);
    }

    void promise16CloseMayBe0And99() {
        hushes(train(of("400h;410h;400h", "s"), 40, 0, 9, 0), 0, 1, 2);
        hushes(train(of("090h;900h;500h", "s"), 40, 0, 9, 99), 0, 0, 0);
        hushes(train(of("090h;910h;500h", "s"), 40, 0, 9, 99), 0, 1, 1);
    }

    void promise16OneMayAlwaysSing() {
        hushes(train(of("000h;100h;200h;300h;400h;500h;600h;700h", "s"), 40, 0, 9, 9), 0, 7, 127);
    }

    void promise16TheFirstAndTheLastBit() {
        hushes(of("900h;000h;000h;000h;000h;000h;000h;000h", "s"), 0, 1, 1);
        hushes(of("000h;000h;000h;000h;000h;000h;000h;900h", "s"), 0, 1, 128);
    }

    void promise16TheFewestComeBeforeTheLeastBits() {
        hushes(of("000h;000h;900h", "s"), 0, 1, 4);
        hushes(of("000h;000h;000h;900h;900h", "s"), 0, 2, 24);
    }

    void promise16OfLikeOnesTheLeastBits() {
        hushes(of("000h;900h", "s"), 0, 1, 1);
        hushes(of("900h;000h", "s"), 0, 1, 1);
        hushes(of("000h;900h;900h;000h", "s"), 0, 2, 6);
        hushes(of("000h;200h;400h", "s"), 0, 2, 3);
        hushes(of("000h;400h;200h;100h", "s"), 0, 2, 3);
    }

    void promise16TheFirstOrTheLastMayBeTheFlattestThatSings() {
        hushes(of("900h;800h;000h", "s"), 0, 1, 4);
        hushes(of("000h;800h;900h", "s"), 0, 1, 1);
    }

    void promise16SilentOnesAreNotHushed() {
        hushes(of("900n;900n", "s"), 0, 0, 0);
        hushes(of("900n;900n;000h;200h", "s"), 0, 1, 4);
    }

    void promise16OthersTakeNotesFromTheHushed() {
        hushes(train(of("000h;090n;090n", "s"), 40, 0, 9, 0), 0, 1, 1);
    }

    void promise16RestsAndBarsEAreToldToo() {
        TrainNote x = of("000h;200h;009h", "rre");
        hushes(x, 0, 1, 2);
        hushes(x, 1, 1, 2);
        hushes(x, 2, 1, 2);
        hushes(of("400h;409h", RESTS), 23, 1, 1);
        hushes(of("400h;409h", RESTS), 1, 0, 0);
        hushes(of("400h;409h", RESTS), 2, 1, 1);
    }

    void promise16NobodyIsHushedByAsking() {
        onlyAsks(rich().hush(2, 1), Edges::rich, x -> x.hush(2, 1));
    }

    void promise16RefusesBarsThatThereAreNot() {
        for (int what = 0; what < 2; what++) {
            int asked = what;
            for (int bar : NO_BARS) {
                refuses(-2, Edges::rich, x -> x.hush(bar, asked));
            }
            refuses(-2, Edges::full, x -> x.hush(24, asked));
            refuses(-2, TrainNote::new, x -> x.hush(0, asked));
        }
    }

    void promise16RefusesAnyOtherWhat() {
        for (int what : new int[] {-1, 2, LEAST, MOST}) {
            refuses(-2, Edges::rich, x -> x.hush(0, what));
            refuses(-2, Edges::rich, x -> x.hush(9, what));
        }
    }

    // ---- 17 drive

    private void drives(TrainNote x, int bar, int speed, int much) {
        is(speed, x.drive(bar, 0));
        is(much, x.drive(bar, 1));
    }

    void promise17WhereAllAreLikeItIsTheLeastSpeed() {
        drives(of("", "s"), 0, 0, 0);
        drives(of("900h", "s"), 0, 0, 0);
        drives(of("500n;500n", "s"), 0, 0, 0);
        drives(of("300h;300h", "s"), 0, 0, 0);
        drives(of("300h;340n", "s"), 0, 0, 2);
    }

    void promise17TheFirstSpeedIs0AndTheLastIs99() {
        drives(of("000h;900h", "s"), 0, 0, 0);
        // At PLACE 4 it is 1000 by any SPEED; the other is 1000 and SPEED less 99 behind 11 rests, less 108 behind 12.
        TrainNote x = of("400h;009h", "rrrrrrrrrrrrs");
        drives(x, 10, 90, 0);
        drives(x, 11, 99, 0);
        drives(x, 12, 99, 9);
    }

    void promise17OfLikeOnesTheLeast() {
        // 1000 and the SPEED; 1009 and 1013 less the SPEED: apart by 4 with 5 and with 6.
        drives(of("000h;890h;890n", "s"), 0, 5, 4);
        // A fourth is cut: by SPEEDS 1 to 3 none is apart, by 0 none as well.
        drives(of("000h;100h", "s"), 0, 0, 0);
        // Apart by 1, less a fourth of SPEED that is cut: by 4 to 7.
        drives(of("001h;100h", "rs"), 1, 4, 0);
    }

    void promise17EarlyIsAsItIs() {
        // Half the SPEED, up to the next with EARLY 2, must be 6.
        TrainNote x = of("003h;260h", "s");
        drives(x, 0, 12, 0);
        x.set(1, 2);
        drives(x, 0, 11, 0);
    }

    void promise17RestsAndBarsEAreToldToo() {
        TrainNote x = of("400h;009h", "rre");
        drives(x, 0, 0, 0);
        drives(x, 1, 9, 0);
        drives(x, 2, 0, 0);
    }

    void promise17TheLastOf24Bars() {
        drives(of("400h;009h", RESTS), 23, 99, 108);
    }

    void promise17TheTrainIsAsItWas() {
        onlyAsks(rich().drive(2, 0), Edges::rich, x -> x.drive(2, 0));
    }

    void promise17RefusesBarsThatThereAreNot() {
        for (int what = 0; what < 2; what++) {
            int asked = what;
            for (int bar : NO_BARS) {
                refuses(-2, Edges::rich, x -> x.drive(bar, asked));
            }
            refuses(-2, Edges::full, x -> x.drive(24, asked));
            refuses(-2, TrainNote::new, x -> x.drive(0, asked));
        }
    }

    void promise17RefusesAnyOtherWhat() {
        for (int what : new int[] {-1, 2, LEAST, MOST}) {
            refuses(-2, Edges::rich, x -> x.drive(0, what));
            refuses(-2, Edges::rich, x -> x.drive(9, what));
        }
    }
}
