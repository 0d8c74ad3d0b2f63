/** Edges of promises 9 to 14: the WHISTLE, ears, NOTES, chords, and which BARS are OPEN. */
public final class NoteEdgesTest extends Edges {
    private static final String ROW = "000h;100n;200n;300n;400n;500n;600n;700n";
    private static final String RESTS = "rrrrrrrrrrrrrrrrrrrrrrrs";

    public static void main(String[] args) {
        new NoteEdgesTest().run(9, 14);
    }

    /** Of these only the song of one BAR matters. */
    private static TrainNote choir(String singers) {
        return of(singers, "s");
    }

    // ---- 9 whistle

    void promise9IsToldAtPlaces0To9() {
        TrainNote x = new TrainNote();
        for (int place = 0; place <= 9; place++) {
            is(1040 - 10 * place, x.whistle(place));
        }
    }

    void promise9RefusesPlacesBeyond() {
        for (int place : new int[] {-1, 10, LEAST, MOST}) {
            refuses(-10002, Edges::rich, x -> x.whistle(place));
            refuses(-10002, TrainNote::new, x -> x.whistle(place));
        }
    }

    void promise9TheHighestAndTheLowest() {
        is(1108, train(new TrainNote(), 99, 0, 18).whistle(0));
        is(645, train(new TrainNote(), 99, 9, 0).whistle(9));
    }

    void promise9BySpeed0AllPlacesAreLike() {
        TrainNote x = train(new TrainNote(), 0, 9, 9);
        is(1000, x.whistle(0));
        is(1000, x.whistle(9));
    }

    void promise9StillWindIs9() {
        TrainNote x = new TrainNote();
        x.set(2, 0);
        is(1031, x.whistle(0));
        x.set(2, 8);
        is(1039, x.whistle(0));
        x.set(2, 9);
        is(1040, x.whistle(0));
        x.set(2, 18);
        is(1049, x.whistle(0));
    }

    void promise9FourthsAreCut() {
        TrainNote x = train(new TrainNote(), 1);
        int[] byOne = {1001, 1001, 1001, 1001, 1000, 1000, 1000, 1000, 999, 999};
        for (int place = 0; place <= 9; place++) {
            is(byOne[place], x.whistle(place));
        }
        x.set(0, 3);
        int[] byThree = {1003, 1003, 1002, 1001, 1000, 1000, 999, 998, 997, 997};
        for (int place = 0; place <= 9; place++) {
            is(byThree[place], x.whistle(place));
        }
    }

    void promise9PlaceAndEarlyAreCutTogether() {
        TrainNote x = train(new TrainNote(), 1, 2);
        is(1001, x.whistle(1));
        is(1000, x.whistle(2));
        x.set(1, 9);
        is(999, x.whistle(0));
        is(998, x.whistle(3));
        is(997, x.whistle(9));
    }

    // ---- 10 ear

    void promise10OneAloneHasNoNeighbour() {
        is(-1, choir("500h").ear(0, 0));
        is(-1, choir("500n").ear(0, 0));
    }

    void promise10OneAloneThatHearsTakesItByNone() {
        is(0, choir("500h").ear(0, 1));
    }

    void promise10OneAloneThatDoesNotHearIsSilent() {
        is(-1, choir("500n").ear(0, 1));
    }

    void promise10NearestIsTheSamePlaceOr9Away() {
        is(2, choir("500h;400h;500h").ear(0, 0));
        TrainNote x = choir("000h;900h");
        is(1, x.ear(0, 0));
        is(0, x.ear(1, 0));
    }

    void promise10OfLikeOnesTheLeast() {
        is(1, choir("500h;400h;600h").ear(0, 0));
        is(1, choir("500h;600h;400h").ear(0, 0));
        is(0, choir("600h;400h;500h").ear(2, 0));
        is(0, choir("300h;300h;300h").ear(2, 0));
        is(1, choir("300h;300h;300h").ear(0, 0));
        is(6, choir("000h;000h;000h;000h;000h;000h;900h;900h").ear(7, 0));
    }

    void promise10ANearerOneComesBeforeALesser() {
        is(2, choir("200h;500h;600h").ear(1, 0));
        is(7, choir("000h;000h;000h;000h;000h;000h;800h;900h").ear(6, 0));
    }

    void promise10TheLongestWayIsBySeven() {
        TrainNote x = choir(ROW);
        for (int i = 0; i < 8; i++) {
            is(i, x.ear(i, 1));
        }
        is(1, x.ear(0, 0));
        is(6, x.ear(7, 0));
    }

    void promise10TwoThatTakeItFromEachOtherAreSilent() {
        TrainNote x = choir("000h;800n;900n");
        is(2, x.ear(1, 0));
        is(1, x.ear(2, 0));
        is(-1, x.ear(1, 1));
        is(-1, x.ear(2, 1));
        is(0, x.ear(0, 1));
    }

    void promise10OneWhoseNeighbourIsSilentIsSilent() {
        TrainNote x = choir("200h;900n;900n;700n;500n");
        is(1, x.ear(3, 0));
        is(3, x.ear(4, 0));
        is(-1, x.ear(3, 1));
        is(-1, x.ear(4, 1));
    }

    void promise10AllEightMayGoRoundForEver() {
        TrainNote x = choir(ROW.replace('h', 'n'));
        for (int i = 0; i < 8; i++) {
            is(-1, x.ear(i, 1));
            is(i == 0 ? 1 : i - 1, x.ear(i, 0));
        }
    }

    void promise10OneThatHearsHasANeighbourToo() {
        TrainNote x = choir("100n;100n;900h");
        is(0, x.ear(2, 0));
        is(0, x.ear(2, 1));
    }

    void promise10TheFirstAndTheLastOfEightMayTakeItAndGiveItOn() {
        TrainNote x = choir("100n;300n;000h");
        is(2, x.ear(0, 0));
        is(1, x.ear(0, 1));
        is(0, x.ear(1, 0));
        is(2, x.ear(1, 1));
        x = choir("900h;100h;100h;100h;100h;100h;600n;800n");
        is(0, x.ear(7, 0));
        is(1, x.ear(7, 1));
        is(7, x.ear(6, 0));
        is(2, x.ear(6, 1));
    }

    void promise10RefusesSingersBeyond() {
        for (int what = 0; what < 2; what++) {
            int asked = what;
            for (int i : new int[] {-1, 6, 8, LEAST, MOST}) {
                refuses(-2, Edges::rich, x -> x.ear(i, asked));
            }
            refuses(-2, Edges::full, x -> x.ear(8, asked));
            refuses(-2, TrainNote::new, x -> x.ear(0, asked));
        }
    }

    void promise10RefusesAnyOtherWhat() {
        for (int what : new int[] {-1, 2, LEAST, MOST}) {
            refuses(-2, Edges::rich, x -> x.ear(0, what));
            refuses(-2, Edges::rich, x -> x.ear(6, what));
            refuses(-2, () -> choir("500n"), x -> x.ear(0, what));
        }
    }

    // ---- 11 note

    void promise11AtEvenPlacesTheEarIsAddedAtOddOnesTaken() {
        TrainNote x = choir("090h;190h;890h;990h");
        is(1049, x.note(0, 0));
        is(1021, x.note(1, 0));
        is(969, x.note(2, 0));
        is(941, x.note(3, 0));
    }

    void promise11HalfTheEarIsCutAndAddedAtAnyPlace() {
        int[] halves = {0, 0, 1, 1, 2, 2, 3, 3, 4, 4};
        for (int ear = 0; ear <= 9; ear++) {
            is(1000 + halves[ear], choir("400h;4" + ear + "0n").note(1, 0));
            is(1000 + halves[ear], choir("400h;5" + ear + "0n").note(1, 0));
        }
    }

    void promise11SilentOnesHaveNone() {
        is(-10000, choir("500n").note(0, 0));
        TrainNote x = choir("000h;800n;900n;700n");
        is(1040, x.note(0, 0));
        for (int i = 1; i < 4; i++) {
            is(-10000, x.note(i, 0));
        }
    }

    void promise11TheHighestAndTheLowest() {
        TrainNote x = train(of(ROW.replace("00h", "90h").replace("00n", "90n"), "s"), 99, 0, 18);
        is(1117, x.note(0, 0));
        is(1145, x.note(7, 0));
        x = train(of("999h", RESTS), 99, 9, 0);
        is(636, x.note(0, 0));
        is(429, x.note(0, 23));
    }

    void promise11ItIsLessBehindARestNotInIt() {
        TrainNote x = of("401h;409h;400h", "srs");
        int[][] notes = {{1000, 1000, 999}, {1000, 1000, 991}, {1000, 1000, 1000}};
        for (int i = 0; i < 3; i++) {
            for (int bar = 0; bar < 3; bar++) {
                is(notes[i][bar], x.note(i, bar));
            }
        }
    }

    void promise11BehindEachOf23RestsItIsLess() {
        TrainNote x = of("401h", RESTS);
        for (int bar = 0; bar < 24; bar++) {
            is(1000 - bar, x.note(0, bar));
        }
    }

    void promise11InABarEItIsAsAtFirst() {
        TrainNote x = of("407h", "errers");
        int[] rests = {0, 0, 1, 0, 0, 1};
        for (int bar = 0; bar < 6; bar++) {
            is(1000 - 7 * rests[bar], x.note(0, bar));
        }
    }

    void promise11ARestAtFirstAndAtLast() {
        TrainNote x = of("407h", "rsr");
        is(1000, x.note(0, 0));
        is(993, x.note(0, 1));
        is(993, x.note(0, 2));
    }

    void promise11EachSinksByItselfNotByItsNeighbour() {
        TrainNote x = of("409h;401n", "rs");
        is(991, x.note(0, 1));
        is(999, x.note(1, 1));
    }

    void promise11RefusesSingersBeyond() {
        for (int i : new int[] {-1, 6, 8, LEAST, MOST}) {
            refuses(-10002, Edges::rich, x -> x.note(i, 0));
        }
        refuses(-10002, Edges::full, x -> x.note(8, 0));
        refuses(-10002, () -> of("", "s"), x -> x.note(0, 0));
    }

    void promise11RefusesBarsThatThereAreNot() {
        for (int bar : new int[] {-1, 9, 23, 24, LEAST, MOST}) {
            refuses(-10002, Edges::rich, x -> x.note(0, bar));
        }
        refuses(-10002, Edges::full, x -> x.note(0, 24));
        refuses(-10002, () -> of("400h", ""), x -> x.note(0, 0));
    }

    void promise11BadComesBeforeNone() {
        refuses(-10002, () -> choir("500n"), x -> x.note(0, 1));
        refuses(-10002, () -> choir("500n"), x -> x.note(0, -1));
        refuses(-10002, Edges::rich, x -> x.note(6, 9));
    }

    // ---- 12 away

    void promise12MayBeMoreNoneOrLess() {
        TrainNote x = of("310h;400h;510h;301h", "srs");
        is(9, x.away(0, 0));
        is(0, x.away(1, 0));
        is(-11, x.away(2, 0));
        is(10, x.away(3, 1));
        is(9, x.away(3, 2));
        x.set(2, 8);
        is(-1, x.away(1, 0));
        x.set(2, 10);
        is(1, x.away(1, 0));
    }

    void promise12TheMostAndTheLeast() {
        TrainNote x = train(of(ROW.replace("00h", "90h").replace("00n", "90n"), "s"), 99, 0, 18);
        is(145, x.away(7, 0));
        is(-571, train(of("999h", RESTS), 99, 9, 0).away(0, 23));
    }

    void promise12SilentOnesHaveNone() {
        is(-10000, choir("500n").away(0, 0));
        is(-10000, choir("500n;500n").away(1, 0));
    }

    void promise12RefusesSingersBeyond() {
        for (int i : new int[] {-1, 6, 8, LEAST, MOST}) {
            refuses(-10002, Edges::rich, x -> x.away(i, 0));
        }
        refuses(-10002, Edges::full, x -> x.away(8, 0));
        refuses(-10002, () -> of("", "s"), x -> x.away(0, 0));
    }

    void promise12RefusesBarsThatThereAreNot() {
        for (int bar : new int[] {-1, 9, 23, 24, LEAST, MOST}) {
            refuses(-10002, Edges::rich, x -> x.away(0, bar));
        }
        refuses(-10002, Edges::full, x -> x.away(0, 24));
        refuses(-10002, () -> of("400h", ""), x -> x.away(0, 0));
    }

    void promise12BadComesBeforeNone() {
        refuses(-10002, () -> choir("500n"), x -> x.away(0, 1));
        refuses(-10002, () -> choir("500n"), x -> x.away(0, -1));
    }

    // ---- 13 chord

    void promise13FewerThanTwoAreApartByNothing() {
        is(0, choir("").chord(0, 0));
        is(0, choir("090h").chord(0, 0));
        is(0, choir("500n").chord(0, 0));
        is(0, choir("000h;900n;900n").chord(0, 0));
        is(0, choir("900n;900n;900n").chord(0, 0));
    }

    void promise13TwoMayBeApartByNothing() {
        is(0, choir("400h;400h").chord(0, 0));
        is(1, choir("400h;410h").chord(0, 0));
    }

    void promise13SpreadIsOfTheGreatestAndTheLeastOfEight() {
        is(70, choir(ROW.replace('n', 'h')).chord(0, 0));
        is(90, choir("500h;500h;900h;500h;500h;000h;500h;500h").chord(0, 0));
        is(90, choir("900h;500h;500h;500h;500h;500h;500h;000h").chord(0, 0));
        is(90, choir("000h;500h;500h;500h;500h;500h;500h;900h").chord(0, 0));
    }

    void promise13ClosesUpToCloseAndNotBeyond() {
        TrainNote x = choir("000h;100h");
        is(1, x.chord(0, 1));
        x.set(3, 9);
        is(0, x.chord(0, 1));
        x.set(3, 11);
        is(1, x.chord(0, 1));
    }

    void promise13CloseMayBe0And99() {
        is(1, train(choir("400h;400h"), 40, 0, 9, 0).chord(0, 1));
        is(0, train(choir("400h;410h"), 40, 0, 9, 0).chord(0, 1));
        TrainNote x = train(choir("090h;900h"), 40, 0, 9, 99);
        is(99, x.chord(0, 0));
        is(1, x.chord(0, 1));
        x = train(choir("090h;910h"), 40, 0, 9, 99);
        is(100, x.chord(0, 0));
        is(0, x.chord(0, 1));
    }

    void promise13FewerThanTwoClose() {
        for (String singers : new String[] {"", "090h", "500n", "000h;900n;900n"}) {
            is(1, train(choir(singers), 40, 0, 9, 0).chord(0, 1));
        }
    }

    void promise13ARestNeverCloses() {
        for (String singers : new String[] {"", "400h", "400h;400h"}) {
            TrainNote x = of(singers, "rsre");
            is(0, x.chord(0, 1));
            is(1, x.chord(1, 1));
            is(0, x.chord(2, 1));
            is(1, x.chord(3, 1));
        }
    }

    void promise13ARestHasSpreadAndFlattest() {
        TrainNote x = of("000h;100h", "r");
        is(10, x.chord(0, 0));
        is(1, x.chord(0, 2));
    }

    void promise13OfLikeOnesTheFlattestIsTheLeast() {
        is(0, choir("400h;400h;400h").chord(0, 2));
        is(1, choir("000h;900h;500h;900h").chord(0, 2));
        is(7, choir("000h;000h;000h;000h;000h;000h;000h;900h").chord(0, 2));
        is(6, choir("000h;000h;000h;000h;000h;000h;900h;900h").chord(0, 2));
    }

    void promise13ASilentOneIsNeverTheFlattest() {
        is(2, choir("900n;900n;000h").chord(0, 2));
        is(0, choir("000h;900n;900n").chord(0, 2));
    }

    void promise13ThereMayBeNoFlattest() {
        is(-1, choir("").chord(0, 2));
        is(-1, choir("500n").chord(0, 2));
        is(-1, choir("900n;900n").chord(0, 2));
    }

    void promise13TheFirstAndTheLastOf24BarsAreTold() {
        TrainNote x = of("400h;409h", RESTS);
        is(0, x.chord(0, 0));
        is(207, x.chord(23, 0));
        is(0, x.chord(23, 1));
        is(1, x.chord(23, 2));
    }

    void promise13RefusesBarsThatThereAreNot() {
        for (int what = 0; what < 3; what++) {
            int asked = what;
            for (int bar : new int[] {-1, 9, 23, 24, LEAST, MOST}) {
                refuses(-2, Edges::rich, x -> x.chord(bar, asked));
            }
            refuses(-2, Edges::full, x -> x.chord(24, asked));
            refuses(-2, TrainNote::new, x -> x.chord(0, asked));
        }
    }

    void promise13RefusesAnyOtherWhat() {
        for (int what : new int[] {-1, 3, LEAST, MOST}) {
            refuses(-2, Edges::rich, x -> x.chord(0, what));
            refuses(-2, Edges::rich, x -> x.chord(1, what));
            refuses(-2, Edges::rich, x -> x.chord(9, what));
        }
    }

    void promise13BadComesBeforeNone() {
        refuses(-2, () -> choir(""), x -> x.chord(1, 2));
        refuses(-2, () -> choir(""), x -> x.chord(-1, 2));
    }

    // ---- 14 open

    private void opens(int first, int howMany, TrainNote x) {
        is(first, x.open(0));
        is(howMany, x.open(1));
    }

    void promise14OfNoSongThereIsNone() {
        opens(-1, 0, new TrainNote());
        opens(-1, 0, of("000h;900h", ""));
    }

    void promise14AllMayClose() {
        opens(-1, 0, of("000h;100h", "srse"));
        opens(-1, 0, of("", "srse"));
    }

    void promise14AllOf24MayBeOpen() {
        opens(0, 24, of("000h;900h", "ssssssssssssssssssssssse"));
    }

    void promise14TheFirstMayBeTheFirstOrTheLastBar() {
        opens(0, 1, of("005h;200h", "srrs"));
        opens(23, 1, of("400h;409h", RESTS));
    }

    void promise14RestsAreNotOpen() {
        opens(-1, 0, of("000h;900h", "rrr"));
        opens(1, 1, of("000h;900h", "rsr"));
    }

    void promise14CloseItselfIsNotOpen() {
        TrainNote x = of("400h;401h", "rrrrrrrrrrse");
        opens(-1, 0, x);
        x.set(3, 9);
        opens(10, 1, x);
    }

    void promise14RefusesAnyOtherWhat() {
        for (int what : new int[] {-1, 2, LEAST, MOST}) {
            refuses(-2, Edges::rich, x -> x.open(what));
            refuses(-2, TrainNote::new, x -> x.open(what));
        }
    }
}
