import java.math.BigInteger;
import java.util.Arrays;
import java.util.function.Supplier;

/** The edges of promises 23 to 27: shares, rests, chances. */
public final class ChanceEdgesTest {
    private static final int UNKNOWN = -1, OUTSIDE = -2, NONE = -9;

    private static void due(String call, long got, long want) {
        Edges.due(call, got, want);
    }

    private static PleatRoads on(String text) {
        return Edges.on(text);
    }

    // ---- promise 23

    private static void shareIs(PleatRoads x, int traveller, int above, int below) {
        due("share(" + traveller + ", true)", x.share(traveller, true), above);
        due("share(" + traveller + ", false)", x.share(traveller, false), below);
    }

    static void p23_travellersBeyondAreUnknownAboveAndBelowAndChangeNothing() {
        for (int traveller : Edges.beyond(0, Edges.BUSY_TRAVELLERS - 1)) {
            Edges.leavesBusy("share(" + traveller + ", true)", x -> x.share(traveller, true), UNKNOWN);
            Edges.leavesBusy("share(" + traveller + ", false)", x -> x.share(traveller, false), UNKNOWN);
        }
        due("share(5, true)", on("RT010T010T010T010T010").share(5, true), UNKNOWN);
    }

    static void p23_itChangesNothing() {
        // Reaches are 0 to 2; all; all; 1 to 4.
        Edges.leavesBusy("share(0, true)", x -> x.share(0, true), 5);
        Edges.leavesBusy("share(0, false)", x -> x.share(0, false), 6);
        Edges.leavesBusy("share(1, true)", x -> x.share(1, true), 3);
        Edges.leavesBusy("share(1, false)", x -> x.share(1, false), 2);
    }

    static void p23_aloneItIsAllThatItReaches() {
        shareIs(on("RT010"), 0, 1, 1);
        shareIs(on("RF90T010"), 0, 1, 1);
        shareIs(on("RF50T050"), 0, 2, 1);
        shareIs(on(Edges.TEN_INNS + "T510"), 0, 11, 1);
    }

    static void p23_fiveShareAlike() {
        PleatRoads x = on("RT010T091T092T093T050");
        PleatRoads y = on(Edges.TEN_INNS + "T010T310T510T713T913");
        for (int t = 0; t < 5; t++) {
            shareIs(x, t, 1, 5);
            shareIs(y, t, 11, 5);
        }
    }

    static void p23_itIsToldInLeastTerms() {
        PleatRoads x = on("RF50T050T150");
        shareIs(x, 0, 1, 1);
        shareIs(x, 1, 1, 1);
        PleatRoads y = on("RF10F10T090T190T290T193");
        shareIs(y, 0, 3, 4);
        PleatRoads z = on("RF90F90F90T010T010T010T010T290");
        shareIs(z, 0, 1, 4);
        shareIs(z, 4, 3, 1);
    }

    static void p23_placesOfOneToFiveAreSharedEachForItself() {
        // Reaches are 0 to 4, 0 to 3, 0 to 2, 0 to 1, 0.
        PleatRoads x = on("RF10F10F10F10T040T030T020T010T012");
        shareIs(x, 0, 137, 60);
        shareIs(x, 1, 77, 60);
        shareIs(x, 2, 47, 60);
        shareIs(x, 3, 9, 20);
        shareIs(x, 4, 1, 5);
    }

    // ---- promise 24

    private static void restsAre(PleatRoads x, int one, int other, int many, int first) {
        due("rests(" + one + ", " + other + ", 0)", x.rests(one, other, 0), many);
        due("rests(" + one + ", " + other + ", 1)", x.rests(one, other, 1), first);
    }

    static void p24_travellersBeyondAreUnknownAndChangeNothing() {
        for (int traveller : Edges.beyond(0, Edges.BUSY_TRAVELLERS - 1)) {
            Edges.leavesBusy("rests(" + traveller + ", 0, 0)", x -> x.rests(traveller, 0, 0), UNKNOWN);
            Edges.leavesBusy("rests(0, " + traveller + ", 1)", x -> x.rests(0, traveller, 1), UNKNOWN);
        }
    }

    static void p24_unknownGoesAheadOfOutside() {
        for (int traveller : Edges.beyond(0, Edges.BUSY_TRAVELLERS - 1)) {
            Edges.leavesBusy("rests of one who is not there with itself", x -> x.rests(traveller, traveller, 0), UNKNOWN);
            Edges.leavesBusy("rests(" + traveller + ", 0, 2)", x -> x.rests(traveller, 0, 2), UNKNOWN);
            Edges.leavesBusy("rests(0, " + traveller + ", -1)", x -> x.rests(0, traveller, -1), UNKNOWN);
        }
    }

    static void p24_bothAreOneIsOutsideAndChangesNothing() {
        for (int t = 0; t < Edges.BUSY_TRAVELLERS; t++) {
            int both = t;
            Edges.leavesBusy("rests(" + t + ", " + t + ", 0)", x -> x.rests(both, both, 0), OUTSIDE);
            Edges.leavesBusy("rests(" + t + ", " + t + ", 1)", x -> x.rests(both, both, 1), OUTSIDE);
        }
    }

    static void p24_whatBeyondIsOutsideAndChangesNothing() {
        for (int what : Edges.beyond(0, 1)) {
            Edges.leavesBusy("rests(0, 1, " + what + ")", x -> x.rests(0, 1, what), OUTSIDE);
            Edges.leavesBusy("rests(3, 2, " + what + ")", x -> x.rests(3, 2, what), OUTSIDE);
        }
    }

    static void p24_itChangesNothing() {
        Supplier<PleatRoads> made = () -> on("RF90T093T010");
        Edges.leavesAll("rests(0, 1, 0)", made, x -> x.rests(0, 1, 0), 2);
        Edges.leavesAll("rests(0, 1, 1)", made, x -> x.rests(0, 1, 1), 10);
        // On is best for the plain one if lungs step, for each has 7 then; if both stand, each has 6, and lungs 7 by on.
        Edges.leavesBusy("rests(0, 3, 0)", x -> x.rests(0, 3, 0), 2);
        Edges.leavesBusy("rests(0, 3, 1)", x -> x.rests(0, 3, 1), 10);
    }

    static void p24_whoCanNotStepStands() {
        // All nine pairs are one.
        restsAre(on("RF90T010T110"), 0, 1, 9, 0);
        restsAre(on("RT010T010"), 0, 1, 9, 0);
        // The other one can't step, for an asthmatic pays 2; the one has 1 back, 3 on, and 6 if it stands.
        restsAre(on("RF10F10T110T012"), 0, 1, 3, 20);
    }

    static void p24_noPairIs0AndNone() {
        PleatRoads x = on("RF32F62F13T163T050T153");
        x.step(0, true);
        x.freeze();
        x.step(1, true);
        x.step(2, true);
        restsAre(x, 0, 1, 0, NONE);
    }

    static void p24_onePairAloneIsTold() {
        // The stout one has 7 by on and on, 6 else; the plain one 3 by on, 2 or 0 else.
        restsAre(on("RF20F10T011T110"), 0, 1, 1, 11);
    }

    static void p24_ofSeveralPairsTheFirstIsTold() {
        // At one place: who steps alone has 3, the other one 2; both back (can't) or standing have 0, both on 1.
        restsAre(on("RF10T010T010"), 0, 1, 4, 1);
        // (back or stands, stands) 6 and 6; (on, back) and (on, on) 3 and 3.
        restsAre(on("RF10F10T010T110"), 0, 1, 4, 2);
    }

    static void p24_theOneStepsFirst() {
        // Lungs go on, and the plain one behind them has 6 if it stays; ahead of them it can not step.
        restsAre(on("RF90T093T010"), 0, 1, 2, 10);
        restsAre(on("RF90T093T010"), 1, 0, 3, 1);
    }

    static void p24_atOnePlaceNeitherHasMoreThanItsStep() {
        // Both at 0, one of 1, an asthmatic who can't: the one has 3 by on, the other one 2.
        restsAre(on("RF10T010T012"), 0, 1, 3, 10);
        // With an inn in between each has 4 more apart: on alone 7 and 6, both on 1 and 1.
        restsAre(on("RF13T010T010"), 0, 1, 4, 1);
    }

    static void p24_toStandApartIsMoreThanToStepToOnePlace() {
        PleatRoads x = on("RF30F90T030T120T293");
        x.step(2, false);
        due("count(6)", x.count(6), 2);
        // The other one can step on alone, through what is open, if the one stands: 2 and 3. The one's step shuts it: 1 and 0.
        restsAre(x, 0, 1, 2, 1);
    }

    // ---- promise 25

    private static void icyIs(PleatRoads x, int place, int tenths, int above, int below) {
        due("icy(0, " + place + ", " + tenths + ", true)", x.icy(0, place, tenths, true), above);
        due("icy(0, " + place + ", " + tenths + ", false)", x.icy(0, place, tenths, false), below);
    }

    static void p25_travellersBeyondAreUnknownAboveAndBelowAndChangeNothing() {
        for (int traveller : Edges.beyond(0, Edges.BUSY_TRAVELLERS - 1)) {
            Edges.leavesBusy("icy(" + traveller + ", 0, 0, true)", x -> x.icy(traveller, 0, 0, true), UNKNOWN);
            Edges.leavesBusy("icy(" + traveller + ", 0, 0, false)", x -> x.icy(traveller, 0, 0, false), UNKNOWN);
        }
    }

    static void p25_placesBeyondAreUnknownAboveAndBelowAndChangeNothing() {
        for (int place : Edges.beyond(0, Edges.BUSY_PLEATS)) {
            Edges.leavesBusy("icy(0, " + place + ", 10, true)", x -> x.icy(0, place, 10, true), UNKNOWN);
            Edges.leavesBusy("icy(0, " + place + ", 10, false)", x -> x.icy(0, place, 10, false), UNKNOWN);
        }
        due("icy(0, 10, 1, true)", on(Edges.TEN_INNS + "T010").icy(0, 10, 1, true), 1);
        due("icy(0, 11, 1, true)", on(Edges.TEN_INNS + "T010").icy(0, 11, 1, true), UNKNOWN);
    }

    static void p25_xBeyond0To10IsOutsideAboveAndBelowAndChangesNothing() {
        for (int x10 : Edges.beyond(0, 10)) {
            Edges.leavesBusy("icy(0, 0, " + x10 + ", true)", x -> x.icy(0, 0, x10, true), OUTSIDE);
            Edges.leavesBusy("icy(0, 4, " + x10 + ", false)", x -> x.icy(0, 4, x10, false), OUTSIDE);
        }
    }

    static void p25_unknownGoesAheadOfOutside() {
        due("icy(-1, 0, 11, true)", on("RT010").icy(-1, 0, 11, true), UNKNOWN);
        due("icy(0, 1, -1, false)", on("RT010").icy(0, 1, -1, false), UNKNOWN);
    }

    static void p25_itChangesNothing() {
        // The plain one of 4 back for 4: not if there is ice.
        Edges.leavesBusy("icy(0, 0, 3, true)", x -> x.icy(0, 0, 3, true), 7);
        Edges.leavesBusy("icy(0, 0, 3, false)", x -> x.icy(0, 0, 3, false), 10);
    }

    static void p25_each0To10TenthsAreToldInLeastTerms() {
        int[] above = {1, 9, 4, 7, 3, 1, 2, 3, 1, 1, 0};
        int[] below = {1, 10, 5, 10, 5, 2, 5, 10, 5, 10, 1};
        for (int x = 0; x <= 10; x++) {
            icyIs(on("RF50T050"), 1, x, above[x], below[x]);
        }
    }

    static void p25_itsOwnPlaceIsSureAndWhatIsOutOfReachIsNot() {
        for (int x = 0; x <= 10; x++) {
            icyIs(on("RF90T010"), 0, x, 1, 1);
            icyIs(on("RF90T010"), 1, x, 0, 1);
            icyIs(on("RT010"), 0, x, 1, 1);
            icyIs(on("RF50T060"), 1, x, 1, 1);
        }
    }

    static void p25_eachPleatIsIcyByItself() {
        icyIs(on("RF10F10T020"), 2, 5, 1, 4);
        icyIs(on("RF10F10T020"), 2, 1, 81, 100);
        icyIs(on("RF10F10T030"), 2, 5, 3, 4);
        icyIs(on("RF10F10T030"), 2, 1, 99, 100);
        icyIs(on("RF10F10T040"), 2, 9, 1, 1);
        icyIs(on("RF10F10T020"), 1, 5, 1, 1);
    }

    static void p25_eightPleatsAreIcyTheNinthAndTenthAreNot() {
        PleatRoads eight = on("RF10F10F10F10F10F10F10F10T080");
        icyIs(eight, 8, 9, 1, 100000000);
        icyIs(eight, 8, 1, 43046721, 100000000);
        icyIs(eight, 8, 5, 1, 256);
        icyIs(on(Edges.TEN_SOFT + "T710"), 8, 10, 0, 1);
        icyIs(on(Edges.TEN_SOFT + "T810"), 7, 10, 0, 1);
        icyIs(on(Edges.TEN_SOFT + "T810"), 9, 10, 1, 1);
        icyIs(on(Edges.TEN_SOFT + "T910"), 8, 10, 1, 1);
        icyIs(on(Edges.TEN_SOFT + "T910"), 10, 10, 1, 1);
    }

    static void p25_innsTakeNoIceButAreOfTheFirstEight() {
        icyIs(on("RF93T010"), 1, 10, 1, 1);
        icyIs(on("RF93F10T010"), 2, 10, 0, 1);
        icyIs(on("RF93F10F10F10F10F10F10F10F10T810"), 9, 10, 1, 1);
        icyIs(on("RF93F10F10F10F10F10F10F10F10T810"), 7, 10, 0, 1);
    }

    static void p25_anOpenOneCosts1MoreToo() {
        PleatRoads x = on("RF50T053");
        x.step(0, true);
        due("count(6)", x.count(6), 1);
        icyIs(x, 0, 0, 1, 1);
        icyIs(x, 0, 2, 4, 5);
        icyIs(x, 0, 10, 0, 1);
    }

    static void p25_iceComesBehindHalfAndGrease() {
        // Half of 2 is 1, and 1 more; grease leaves 1 of 1, and 1 more.
        icyIs(on("RF21T010"), 1, 10, 0, 1);
        icyIs(on("RF21T020"), 1, 10, 1, 1);
        icyIs(on("RF12T010"), 1, 10, 0, 1);
        icyIs(on("RF12T020"), 1, 10, 1, 1);
    }

    static void p25_iceComesAheadOfWhatATravellerPays() {
        // Stout: half of 4, of 3 and 1; half of 3, of 2 and 1. Asthmatic: 5 and 1 and 1.
        icyIs(on("RF30T011"), 1, 10, 0, 1);
        icyIs(on("RF30T011"), 1, 0, 1, 1);
        icyIs(on("RF20T011"), 1, 10, 1, 1);
        icyIs(on("RF50T072"), 1, 10, 1, 1);
        icyIs(on("RF50T062"), 1, 10, 0, 1);
    }

    // ---- promise 26

    static void p26_theSeedIsAnyLong0AtFirst() {
        long[] seeds = {1, -1, Long.MAX_VALUE, Long.MIN_VALUE, 4294967296L, Integer.MIN_VALUE, 0};
        PleatRoads x = new PleatRoads();
        long was = 0;
        for (long v : seeds) {
            due("seed(" + v + ")", x.seed(v), was);
            was = v;
        }
        due("seed(0)", x.seed(0), 0);
    }

    static void p26_itChangesNothingElse() {
        PleatRoads x = Edges.busy();
        due("seed(5)", x.seed(5), 77);
        due("seed(77)", x.seed(77), 5);
        Edges.alike("behind the same seed", x, Edges.busy());
        Edges.leavesBusy("seed(77)", y -> y.seed(77), 77);
    }

    // ---- promise 27

    private static final BigInteger TIMES = new BigInteger("6364136223846793005");
    private static final BigInteger AND = new BigInteger("1442695040888963407");
    private static final BigInteger WRAP = BigInteger.ONE.shiftLeft(64);

    /** The next seed by numbers without an end, cut to 64 bits. */
    private static long next(long seed) {
        return BigInteger.valueOf(seed).multiply(TIMES).add(AND).mod(WRAP).longValue();
    }

    private static int left(long seed) {
        return BigInteger.valueOf(seed).mod(WRAP).shiftRight(33).mod(BigInteger.valueOf(26)).intValue();
    }

    /** A seed by which just these are drawn, one behind the other. */
    private static long seedFor(int... drawn) {
        for (long seed = 0; seed < 100000; seed++) {
            long at = seed;
            boolean fits = true;
            for (int i = 0; i < drawn.length && fits; i++) {
                at = next(at);
                fits = left(at) == drawn[i];
            }
            if (fits) {
                return seed;
            }
        }
        due("there is a seed for what is drawn", 0, 1);
        return 0;
    }

    private static void drawn(PleatRoads x, int want, int... drawn) {
        x.seed(seedFor(drawn));
        due("summers(" + drawn.length + ") of " + Arrays.toString(drawn), x.summers(drawn.length), want);
    }

    static void p27_mBeyond1To30IsOutsideAndChangesNothing() {
        for (int m : Edges.beyond(1, 30)) {
            Edges.leavesBusy("summers(" + m + ")", x -> x.summers(m), OUTSIDE);
        }
    }

    static void p27_1To30TimesArePut() {
        for (int m = 1; m <= 30; m++) {
            // Nobody can step, whatever is drawn: 3 and 1 each time.
            due("summers(" + m + ")", on("RF90F90F90T310T110").summers(m), 4 * m);
        }
    }

    static void p27_theSeedWrapsIn64Bits() {
        long[] seeds = {0, 1, -1, Long.MAX_VALUE, Long.MIN_VALUE, 123456789012345L};
        for (long seed : seeds) {
            PleatRoads x = new PleatRoads();
            x.seed(seed);
            long at = seed;
            for (int m = 1; m <= 30; m++) {
                x.summers(m);
                for (int i = 0; i < m; i++) {
                    at = next(at);
                }
                due("the seed behind " + m + " times of " + seed, x.seed(at), at);
            }
        }
    }

    static void p27_theUpper31BitsAreNeverBelow0() {
        int below = 0;
        for (long seed = 0; seed < 200; seed++) {
            PleatRoads x = on("RF10F10T110");
            x.seed(seed);
            int drawn = left(next(seed));
            below += next(seed) < 0 ? 1 : 0;
            due("summers(1) of " + seed, x.summers(1), drawn == 0 ? 0 : drawn == 1 ? 2 : 1);
        }
        due("some are below 0 as a long", below > 50 ? 1 : 0, 1);
    }

    static void p27_0To9IsATravellerThatStepsBackOrOn() {
        for (int t = 0; t < 5; t++) {
            StringBuilder text = new StringBuilder("RF50F50");
            for (int i = 0; i < 5; i++) {
                text.append("T1").append(i == t ? 5 : 1).append(0);
            }
            for (int drawn = 0; drawn < 26; drawn++) {
                drawn(on(text.toString()), drawn == 2 * t ? 4 : drawn == 2 * t + 1 ? 6 : 5, drawn);
            }
        }
    }

    static void p27_10To14IsATravellerThatRests() {
        for (int t = 0; t < 5; t++) {
            for (int rested = 0; rested < 5; rested++) {
                PleatRoads x = on("RF50F50T090T090T090T090T090");
                for (int i = 0; i < 5; i++) {
                    x.step(i, true);
                }
                // With 4 there is no step of 5, rested there is.
                drawn(x, rested == t ? 11 : 10, 10 + rested, 2 * t + 1);
            }
        }
    }

    static void p27_15To24IsAPleatThatIsGreased() {
        for (int k = 0; k < 10; k++) {
            for (int greased = 0; greased < 10; greased++) {
                PleatRoads x = on("RF30F30F30F30F30F30F30F30F30F30T" + k + "10");
                boolean back = greased == k - 1;
                drawn(x, greased == k ? 2 * k + 1 : 2 * k, 15 + greased, 1);
                drawn(x, back ? 2 * k - 1 : 2 * k, 15 + greased, 0);
            }
        }
    }

    static void p27_25IsFrostAnd5AtMost() {
        drawn(on("RF50T050"), 1, 1);
        drawn(on("RF50T050"), 0, 25, 1);
        PleatRoads x = on("RF40T090");
        for (int i = 0; i < 5; i++) {
            x.freeze();
        }
        drawn(x, 1, 25, 1);
        x.undo();
        drawn(x, 1, 25, 1);
        PleatRoads y = on("RF50T090");
        for (int i = 0; i < 4; i++) {
            y.freeze();
        }
        drawn(y, 0, 25, 1);
    }

    static void p27_whoAndWhatIsNotThereIsPassedOver() {
        for (int drawn = 0; drawn < 26; drawn++) {
            drawn(new PleatRoads(), 0, drawn);
            drawn(on("RF10F10T110"), drawn == 0 ? 0 : drawn == 1 ? 2 : 1, drawn);
            drawn(on("RF10F10T110T110T110T110"), drawn > 7 ? 4 : 3 + drawn % 2 * 2, drawn);
        }
        // A rest of one who is not there shuts nothing.
        PleatRoads x = on("RF90T010T193");
        x.step(1, false);
        drawn(x, 0 + 1, 12, 1);
        drawn(x, 0 + 0, 11, 1);
    }

    static void p27_aStepThatCanNotBeIsPassedOver() {
        drawn(on("RF10T010"), 0, 0);
        drawn(on("RF10T190"), 1, 1);
        drawn(on("RF90T010"), 0, 1);
        // It shuts nothing, either.
        PleatRoads x = on("RF90T010T193");
        x.step(1, false);
        drawn(x, 0 + 1, 0, 1);
    }

    static void p27_timesGoOnFromEachOtherWithinOneCall() {
        drawn(on("RF10F10T020"), 1 + 2, 1, 1);
        drawn(on("RF10F10T010"), 1 + 1, 1, 1);
        drawn(on("RF10F10T010"), 1 + 1 + 2, 1, 10, 1);
        // Lungs open it for the plain one.
        drawn(on("RF90T010T193"), 0 + 1, 2, 1);
    }

    static void p27_theNextCallBeginsAtWhatStands() {
        PleatRoads x = on("RF10F10T020");
        drawn(x, 1, 1);
        drawn(x, 1, 1);
        drawn(x, 1 + 2, 1, 1);
    }

    static void p27_nothingChangesButTheSeed() {
        for (int m = 1; m <= 30; m += 29) {
            PleatRoads x = Edges.busy();
            x.summers(m);
            long at = 77;
            for (int i = 0; i < m; i++) {
                at = next(at);
            }
            PleatRoads y = Edges.busy();
            y.seed(at);
            Edges.alike("behind summers(" + m + ")", x, y);
        }
    }

    public static void main(String[] args) throws ReflectiveOperationException {
        Edges.run(ChanceEdgesTest.class, 23, 27);
    }
}
