/** The edges of promises 1 to 7: a new object, the text, the road. */
public final class RoadEdgesTest {
    private static final int UNKNOWN = -1, OUTSIDE = -2, STATE = -3, FULL = -4, NONE = -9;
    private static final String TEN = Edges.TEN_SOFT, FIVE = "T010T010T010T010T010";

    private static void due(String call, long got, long want) {
        Edges.due(call, got, want);
    }

    private static PleatRoads on(String text) {
        return Edges.on(text);
    }

    private static void faultOf(String text, int want) {
        PleatRoads x = new PleatRoads();
        Edges.tell(x, text);
        due("fault() of " + text, x.fault(), want);
    }

    // ---- promise 1

    static void p01_theConstantsAreAsTold() {
        due("UNKNOWN", PleatRoads.UNKNOWN, -1);
        due("OUTSIDE", PleatRoads.OUTSIDE, -2);
        due("STATE", PleatRoads.STATE, -3);
        due("FULL", PleatRoads.FULL, -4);
        due("NONE", PleatRoads.NONE, -9);
    }

    static void p01_atFirstThereIsNothing() {
        PleatRoads x = new PleatRoads();
        for (int what = 0; what <= 10; what++) {
            due("count(" + what + ")", x.count(what), 0);
        }
        due("wipe()", x.wipe(), 0);
        due("unhear()", x.unhear(), 0);
        due("shutIn()", x.shutIn(), 0);
        due("seed(0)", x.seed(0), 0);
        due("summers(30)", x.summers(30), 0);
    }

    static void p01_atFirstThereIsNoPleatAndNobody() {
        PleatRoads x = new PleatRoads();
        due("pleat(0, 0)", x.pleat(0, 0), UNKNOWN);
        due("grease(0)", x.grease(0), UNKNOWN);
        due("traveller(0, 0)", x.traveller(0, 0), UNKNOWN);
        due("step(0, true)", x.step(0, true), UNKNOWN);
        due("rest(0)", x.rest(0), UNKNOWN);
        due("reach(0)", x.reach(0), UNKNOWN);
        due("fewest(0, 0)", x.fewest(0, 0), UNKNOWN);
        due("wants(0, 0)", x.wants(0, 0), UNKNOWN);
        due("meet(0, 0)", x.meet(0, 0), UNKNOWN);
        due("share(0, true)", x.share(0, true), UNKNOWN);
        due("rests(0, 1, 0)", x.rests(0, 1, 0), UNKNOWN);
        due("icy(0, 0, 0, true)", x.icy(0, 0, 0, true), UNKNOWN);
        due("judge(1, 500)", x.judge(1, 500), 0);
    }

    static void p01_atFirstNothingCanBeUndoneThawedOrGoneOnFrom() {
        PleatRoads x = new PleatRoads();
        due("undo()", x.undo(), STATE);
        due("thaw()", x.thaw(), STATE);
        due("again(0)", x.again(0), STATE);
        due("again(1)", x.again(1), STATE);
        due("road()", x.road(), STATE);
    }

    static void p01_oneObjectKnowsNothingOfAnother() {
        PleatRoads other = new PleatRoads();
        Edges.busy();
        Edges.alike("beside a busy one", other, new PleatRoads());
    }

    static void p01_the512thCallIsAnsweredAsAnyOther() {
        PleatRoads x = on("RF10T013");
        // A wipe, eight letters and the road are ten calls.
        for (int call = 11; call <= 511; call++) {
            due("call " + call, call % 2 == 1 ? x.rest(0) : x.step(0, call % 4 == 0), call % 2 == 1 ? 1 : call % 4 == 0 ? 1 : 0);
        }
        due("call 512", x.count(3), 501);
    }

    static void p01_upTo512LettersAreWrittenAndWiped() {
        PleatRoads x = new PleatRoads();
        for (int round = 0; round < 9; round++) {
            for (int length = 1; length <= 52; length++) {
                due("write(70)", x.write('F'), length);
            }
            due("write(70)", x.write('F'), FULL);
            due("wipe()", x.wipe(), 52);
        }
    }

    // ---- promise 2

    static void p02_letters0To255AreTaken() {
        for (int letter = 0; letter <= 255; letter++) {
            PleatRoads x = new PleatRoads();
            due("write(" + letter + ")", x.write(letter), 1);
            due("count(0)", x.count(0), 1);
        }
    }

    static void p02_lettersBeyondAreOutsideAndChangeNothing() {
        for (int letter : Edges.beyond(0, 255)) {
            Edges.leavesBusy("write(" + letter + ")", x -> x.write(letter), OUTSIDE);
        }
        // 'R' and 256 together are not R.
        PleatRoads x = new PleatRoads();
        due("write(338)", x.write('R' + 256), OUTSIDE);
        due("count(0)", x.count(0), 0);
    }

    static void p02_the52ndLetterIsTaken() {
        PleatRoads x = new PleatRoads();
        Edges.tell(x, TEN + FIVE);
        due("count(0)", x.count(0), 51);
        due("write(70), the 52nd", x.write('F'), 52);
        due("count(0)", x.count(0), 52);
        due("fault()", x.fault(), 51);
    }

    private static PleatRoads fullOfLetters() {
        PleatRoads x = Edges.busy();
        Edges.tell(x, TEN + FIVE + "F");
        return x;
    }

    static void p02_the53rdLetterIsFullAndChangesNothing() {
        Edges.leavesAll("write(70), the 53rd", RoadEdgesTest::fullOfLetters, x -> x.write('F'), FULL);
        Edges.leavesAll("write(0), the 53rd", RoadEdgesTest::fullOfLetters, x -> x.write(0), FULL);
    }

    static void p02_outsideGoesAheadOfFull() {
        for (int letter : Edges.beyond(0, 255)) {
            Edges.leavesAll("write(" + letter + "), the 53rd", RoadEdgesTest::fullOfLetters, x -> x.write(letter), OUTSIDE);
        }
    }

    static void p02_itAnswersHowLongTheTextIsThen() {
        PleatRoads x = new PleatRoads();
        for (int length = 1; length <= 52; length++) {
            due("write(" + length + ")", x.write(length), length);
        }
    }

    static void p02_aLetterChangesTheTextAlone() {
        PleatRoads x = Edges.busy();
        x.write('F');
        x.write('1');
        x.write('0');
        PleatRoads y = Edges.busy();
        Edges.tell(y, "RF71T082F10");
        Edges.alike("behind three letters", x, y);
    }

    // ---- promise 3

    static void p03_anEmptyTextWas0Long() {
        PleatRoads x = new PleatRoads();
        due("wipe()", x.wipe(), 0);
        x.write('R');
        due("wipe()", x.wipe(), 1);
        due("wipe()", x.wipe(), 0);
    }

    static void p03_aFullTextWas52LongAndCanBeToldAnew() {
        PleatRoads x = fullOfLetters();
        due("wipe()", x.wipe(), 52);
        due("count(0)", x.count(0), 0);
        due("fault()", x.fault(), 0);
        due("write(82)", x.write('R'), 1);
        due("fault()", x.fault(), NONE);
    }

    static void p03_theRoadAndAllElseStay() {
        PleatRoads x = on("RF50F92T093");
        x.hear(1, 1);
        x.seed(9);
        x.freeze();
        x.keep(0);
        x.step(0, true);
        x.grease(0);
        x.keep(1);
        int[] want = {0, 2, 1, 1, 1, 3, 1, 2, 3, 3, 1};
        due("wipe()", x.wipe(), 11);
        for (int what = 0; what <= 10; what++) {
            due("count(" + what + ")", x.count(what), want[what]);
        }
        due("pleat(1, 0)", x.pleat(1, 0), 9);
        due("traveller(0, 1)", x.traveller(0, 1), 9);
        due("who(0)", x.who(0), 22);
        due("seed(9)", x.seed(9), 9);
        due("undo()", x.undo(), 2);
        due("again(1)", x.again(1), 1);
        due("again(0)", x.again(0), 0);
    }

    // ---- promise 4

    static void p04_anEmptyTextIsOnlyNotAtItsEnd() {
        faultOf("", 0);
    }

    static void p04_RAloneIsARoad() {
        faultOf("R", NONE);
    }

    static void p04_theFirstLetterIsR() {
        for (int letter = 0; letter <= 255; letter++) {
            faultOf("" + (char) letter, letter == 'R' ? NONE : 0);
            faultOf((char) letter + "F10", letter == 'R' ? NONE : 0);
        }
    }

    static void p04_aPartBeginsWithFOrT() {
        for (int letter = 0; letter <= 255; letter++) {
            boolean part = letter == 'F' || letter == 'T';
            faultOf("R" + (char) letter, part ? 2 : 1);
            faultOf("RF10" + (char) letter, part ? 5 : 4);
            faultOf("RT010" + (char) letter, part ? 6 : 5);
        }
    }

    static void p04_stiffnessIs1To9() {
        for (int letter = 0; letter <= 255; letter++) {
            boolean good = letter >= '1' && letter <= '9';
            faultOf("RF" + (char) letter, good ? 3 : 2);
            faultOf("RF" + (char) letter + "0", good ? NONE : 2);
        }
    }

    static void p04_theKindOfAPleatIs0To3() {
        for (int letter = 0; letter <= 255; letter++) {
            faultOf("RF1" + (char) letter, letter >= '0' && letter <= '3' ? NONE : 3);
        }
    }

    static void p04_aPlaceIsNoMoreThanPleatsAreToldAhead() {
        for (int pleats = 0; pleats <= 10; pleats++) {
            String ahead = TEN.substring(0, 1 + 3 * pleats);
            for (int letter = 0; letter <= 255; letter++) {
                boolean good = letter >= '0' && letter <= '9' && letter - '0' <= pleats;
                faultOf(ahead + "T" + (char) letter, ahead.length() + (good ? 2 : 1));
                faultOf(ahead + "T" + (char) letter + "10", good ? NONE : ahead.length() + 1);
            }
        }
    }

    static void p04_pleatsToldBehindATravellerDoNotCountForIt() {
        faultOf("RT110F10", 2);
        faultOf("RF10T210F10", 5);
        faultOf("RT010F10T110", NONE);
    }

    static void p04_breathIs1To9() {
        for (int letter = 0; letter <= 255; letter++) {
            boolean good = letter >= '1' && letter <= '9';
            faultOf("RT0" + (char) letter, good ? 4 : 3);
            faultOf("RT0" + (char) letter + "0", good ? NONE : 3);
        }
    }

    static void p04_theKindOfATravellerIs0To3() {
        for (int letter = 0; letter <= 255; letter++) {
            faultOf("RT01" + (char) letter, letter >= '0' && letter <= '3' ? NONE : 4);
        }
    }

    static void p04_aTextThatIsOnlyNotAtItsEndHasItsLength() {
        String whole = TEN + FIVE;
        for (int length = 0; length <= whole.length(); length++) {
            boolean ends = length >= 1 && length <= 31 && length % 3 == 1 || length >= 31 && (length - 31) % 4 == 0;
            faultOf(whole.substring(0, length), ends ? NONE : length);
        }
    }

    static void p04_tenPleatsAreTakenTheEleventhIsAFault() {
        faultOf(TEN, NONE);
        faultOf(TEN + "F", 31);
        faultOf(TEN + "F10", 31);
        faultOf(TEN + "T010F10", 35);
    }

    static void p04_fiveTravellersAreTakenTheSixthIsAFault() {
        faultOf("R" + FIVE, NONE);
        faultOf("R" + FIVE + "T", 21);
        faultOf("R" + FIVE + "T010", 21);
        faultOf("R" + FIVE + "F10T110", 24);
    }

    static void p04_pleatsAndTravellersAreCountedEachForItself() {
        faultOf(TEN + FIVE, NONE);
        faultOf("R" + FIVE + TEN.substring(1), NONE);
        faultOf("RF10T010F10T010F10T010F10T010F10T010F10F10F10F10F10", NONE);
    }

    static void p04_behindAFullRoadEachLetterIsAFault() {
        for (int letter = 0; letter <= 255; letter++) {
            faultOf(TEN + FIVE + (char) letter, 51);
        }
    }

    static void p04_ofSeveralFaultsTheFirstIsTold() {
        faultOf("XYZ", 0);
        faultOf("RFXX", 2);
        faultOf("RF1XT9", 3);
        faultOf("RF10T200X", 5);
        faultOf("RF10T100X", 6);
        faultOf("RF10T110X", 8);
    }

    static void p04_aFullTextWithoutEndIsReadLikeOthers() {
        StringBuilder b = new StringBuilder("R");
        for (int i = 1; i < 52; i++) {
            b.append('R');
        }
        faultOf(b.toString(), 1);
        faultOf(TEN + FIVE.substring(0, 17) + "010X", 51);
    }

    static void p04_fewerLettersBehindAWipeAreReadAlone() {
        PleatRoads x = new PleatRoads();
        Edges.tell(x, "RF10T110");
        Edges.tell(x, "RF");
        due("fault()", x.fault(), 2);
        Edges.tell(x, "R");
        due("fault()", x.fault(), NONE);
        // The letters that would end it were there once.
        Edges.tell(x, "RF10");
        Edges.tell(x, "RF1");
        due("fault() of RF1", x.fault(), 3);
        Edges.tell(x, "RT010");
        Edges.tell(x, "RT01");
        due("fault() of RT01", x.fault(), 4);
        x.wipe();
        due("fault() of nothing", x.fault(), 0);
    }

    static void p04_itChangesNothing() {
        Edges.leavesBusy("fault()", x -> x.fault(), NONE);
        Edges.leavesAll("fault()", RoadEdgesTest::busyWithAFault, x -> x.fault(), 9);
        Edges.leavesAll("fault()", PleatRoads::new, x -> x.fault(), 0);
    }

    // ---- promise 5

    private static PleatRoads busyWithAFault() {
        PleatRoads x = Edges.busy();
        x.write('F');
        return x;
    }

    private static PleatRoads busyWithoutAText() {
        PleatRoads x = Edges.busy();
        x.wipe();
        return x;
    }

    static void p05_aFaultIsRefusedAndChangesNothing() {
        Edges.leavesAll("road() of RF71T082F", RoadEdgesTest::busyWithAFault, x -> x.road(), STATE);
        Edges.leavesAll("road() of nothing", RoadEdgesTest::busyWithoutAText, x -> x.road(), STATE);
        Edges.leavesAll("road() of too much", RoadEdgesTest::fullOfLetters, x -> x.road(), STATE);
        Edges.leavesAll("road() of nothing", PleatRoads::new, x -> x.road(), STATE);
    }

    static void p05_theEmptyRoadHasNothingButPlace0() {
        PleatRoads x = Edges.busy();
        Edges.tell(x, "R");
        due("road()", x.road(), 0);
        for (int what = 1; what <= 9; what++) {
            due("count(" + what + ")", x.count(what), 0);
        }
        due("pleat(0, 0)", x.pleat(0, 0), UNKNOWN);
        due("traveller(0, 0)", x.traveller(0, 0), UNKNOWN);
        due("shutIn()", x.shutIn(), 0);
        due("place 1", on("RT010").fewest(0, 1), UNKNOWN);
        due("place 0", on("RT010").fewest(0, 0), 0);
    }

    static void p05_theFullRoadHas10PleatsAnd5Travellers() {
        PleatRoads x = new PleatRoads();
        Edges.tell(x, TEN + FIVE);
        due("road()", x.road(), 105);
        due("pleat(9, 0)", x.pleat(9, 0), 1);
        due("pleat(10, 0)", x.pleat(10, 0), UNKNOWN);
        due("traveller(4, 1)", x.traveller(4, 1), 1);
        due("traveller(5, 1)", x.traveller(5, 1), UNKNOWN);
        due("fewest(0, 10)", x.fewest(0, 10), 19);
        due("fewest(0, 11)", x.fewest(0, 11), UNKNOWN);
    }

    static void p05_itAnswers10TimesPleatsAndTravellers() {
        String[] texts = {"RF10", "RT010", "RF10T010", TEN, "R" + FIVE, TEN + "T910", "RF10" + FIVE};
        int[] want = {10, 1, 11, 100, 5, 101, 15};
        for (int i = 0; i < texts.length; i++) {
            PleatRoads x = new PleatRoads();
            Edges.tell(x, texts[i]);
            due("road() of " + texts[i], x.road(), want[i]);
        }
    }

    static void p05_allIsNewOnIt() {
        PleatRoads x = Edges.busy();
        Edges.tell(x, "RF50F31F42F93T090T161T282T363");
        due("road()", x.road(), 44);
        PleatRoads y = on("RF50F31F42F93T090T161T282T363");
        y.hear(1, 1);
        y.hear(3, 0);
        y.seed(77);
        Edges.alike("behind the same road told anew", x, y);
    }

    static void p05_windIsBreathAndJustSmoothPleatsAreGreased() {
        PleatRoads x = on("RF10F21F32F43F92T010T191T252T373T480");
        int[] breath = {1, 9, 5, 7, 8};
        for (int t = 0; t < 5; t++) {
            due("traveller(" + t + ", 0)", x.traveller(t, 0), t);
            due("traveller(" + t + ", 3)", x.traveller(t, 3), breath[t]);
        }
        due("count(5)", x.count(5), 4 + 16);
        due("count(6)", x.count(6), 0);
        due("count(4)", x.count(4), 0);
        due("count(3)", x.count(3), 0);
    }

    static void p05_theRowOfActsIsEmpty() {
        PleatRoads x = Edges.busy();
        x.road();
        due("count(9)", x.count(9), 0);
        due("undo()", x.undo(), STATE);
        x.rest(0);
        due("undo()", x.undo(), 0);
        due("undo()", x.undo(), STATE);
    }

    static void p05_whatWasKeptIsGone() {
        PleatRoads x = Edges.busy();
        x.road();
        due("again(0)", x.again(0), STATE);
        due("again(1)", x.again(1), STATE);
        due("keep(1)", x.keep(1), 0);
        due("again(0)", x.again(0), STATE);
        due("again(1)", x.again(1), 0);
    }

    static void p05_heardTheSeedAndTheTextStay() {
        PleatRoads x = Edges.busy();
        x.road();
        due("count(10)", x.count(10), 2);
        // Place 1 costs 7 by 2, 3: plain 3 to 9, stout 1 to 9, asthmatic 4 to 9, lungs 3 to 9; none comes to 3.
        due("who(0)", x.who(0), 29);
        due("count(0)", x.count(0), 8);
        due("fault()", x.fault(), NONE);
        due("seed(0)", x.seed(0), 77);
    }

    static void p05_aShorterRoadForgetsWhatWasBeyondIt() {
        PleatRoads x = on(TEN + FIVE);
        Edges.tell(x, "RF93T010");
        due("road()", x.road(), 11);
        due("pleat(1, 0)", x.pleat(1, 0), UNKNOWN);
        due("traveller(1, 0)", x.traveller(1, 0), UNKNOWN);
        due("reach(0)", x.reach(0), 3);
        due("icy(0, 2, 0, true)", x.icy(0, 2, 0, true), UNKNOWN);
        Edges.alike("behind a shorter road", x, on("RF93T010"));
    }

    // ---- promise 6

    static void p06_pleatsAre0ToTheLast() {
        PleatRoads x = on("RF20F30F40");
        due("pleat(0, 0)", x.pleat(0, 0), 2);
        due("pleat(2, 0)", x.pleat(2, 0), 4);
        PleatRoads y = on("RF10F10F10F10F10F10F10F10F10F73");
        due("pleat(9, 0)", y.pleat(9, 0), 7);
        due("pleat(9, 1)", y.pleat(9, 1), 3);
        due("pleat(10, 0)", y.pleat(10, 0), UNKNOWN);
    }

    static void p06_pleatsBeyondAreUnknownAndChangeNothing() {
        for (int pleat : Edges.beyond(0, Edges.BUSY_PLEATS - 1)) {
            for (int what = 0; what <= 4; what++) {
                int asked = what;
                Edges.leavesBusy("pleat(" + pleat + ", " + what + ")", x -> x.pleat(pleat, asked), UNKNOWN);
            }
        }
    }

    static void p06_whatBeyondIsOutsideAndChangesNothing() {
        for (int what : Edges.beyond(0, 4)) {
            Edges.leavesBusy("pleat(0, " + what + ")", x -> x.pleat(0, what), OUTSIDE);
            Edges.leavesBusy("pleat(3, " + what + ")", x -> x.pleat(3, what), OUTSIDE);
        }
    }

    static void p06_unknownGoesAheadOfOutside() {
        due("pleat(-1, -1)", on("RF10").pleat(-1, -1), UNKNOWN);
        due("pleat(1, 5)", on("RF10").pleat(1, 5), UNKNOWN);
    }

    static void p06_askingChangesNothing() {
        int[] first = {5, 0, 4, 1, 0};
        int[] open = {4, 2, 0, 1, 1};
        for (int what = 0; what <= 4; what++) {
            int asked = what;
            Edges.leavesBusy("pleat(0, " + what + ")", x -> x.pleat(0, asked), first[what]);
            Edges.leavesBusy("pleat(2, " + what + ")", x -> x.pleat(2, asked), open[what]);
        }
    }

    private static void costs(int kind, int frost, boolean greased, int... want) {
        StringBuilder text = new StringBuilder("R");
        for (int stiffness = 1; stiffness <= 9; stiffness++) {
            text.append('F').append(stiffness).append(kind);
        }
        PleatRoads x = on(text.toString());
        for (int i = 0; i < frost; i++) {
            x.freeze();
        }
        for (int k = 0; k < 9; k++) {
            if (greased) {
                x.grease(k);
            }
            due("what F" + (k + 1) + kind + " costs in frost " + frost + (greased ? ", greased" : ""), x.pleat(k, 2), want[k]);
        }
    }

    static void p06_aPlainOneCostsItsStiffnessAndFrost() {
        costs(0, 0, false, 1, 2, 3, 4, 5, 6, 7, 8, 9);
        costs(0, 1, false, 2, 3, 4, 5, 6, 7, 8, 9, 10);
        costs(0, 5, false, 6, 7, 8, 9, 10, 11, 12, 13, 14);
    }

    static void p06_aCrackedOneTakesHalfCutAnd1AtLeast() {
        costs(1, 0, false, 1, 1, 1, 2, 2, 3, 3, 4, 4);
        costs(1, 1, false, 1, 1, 2, 2, 3, 3, 4, 4, 5);
        costs(1, 5, false, 3, 3, 4, 4, 5, 5, 6, 6, 7);
    }

    static void p06_aGreasedOneTakes2LessAnd1AtLeast() {
        costs(0, 0, true, 1, 1, 1, 2, 3, 4, 5, 6, 7);
        costs(0, 5, true, 4, 5, 6, 7, 8, 9, 10, 11, 12);
        costs(2, 0, false, 1, 1, 1, 2, 3, 4, 5, 6, 7);
        costs(2, 1, false, 1, 1, 2, 3, 4, 5, 6, 7, 8);
    }

    static void p06_crackedGoesAheadOfGrease() {
        costs(1, 0, true, 1, 1, 1, 1, 1, 1, 1, 2, 2);
        costs(1, 5, true, 1, 1, 2, 2, 3, 3, 4, 4, 5);
    }

    static void p06_anInnCosts1WhateverElse() {
        costs(3, 0, false, 1, 1, 1, 1, 1, 1, 1, 1, 1);
        costs(3, 5, false, 1, 1, 1, 1, 1, 1, 1, 1, 1);
        costs(3, 5, true, 1, 1, 1, 1, 1, 1, 1, 1, 1);
    }

    static void p06_anOpenOneCosts0WhateverItIs() {
        for (int kind = 0; kind <= 3; kind++) {
            PleatRoads x = on("RF9" + kind + "T093");
            x.step(0, true);
            for (int i = 0; i < 5; i++) {
                x.freeze();
            }
            due("what an open one of kind " + kind + " costs", x.pleat(0, 2), 0);
            due("pleat(0, 4)", x.pleat(0, 4), 1);
        }
    }

    static void p06_greasedAndOpenAreTold1Or0() {
        PleatRoads x = on("RF10F10F12F10F10F10F10F10F10F12T993");
        x.grease(8);
        x.step(0, true);
        for (int k = 0; k < 10; k++) {
            due("pleat(" + k + ", 3)", x.pleat(k, 3), k == 2 || k >= 8 ? 1 : 0);
            due("pleat(" + k + ", 4)", x.pleat(k, 4), k == 9 ? 1 : 0);
        }
    }

    // ---- promise 7

    static void p07_travellersAre0ToTheLast() {
        PleatRoads x = on("RF10T020T131T042T193T150");
        int[] breath = {2, 3, 4, 9, 5};
        int[] kind = {0, 1, 2, 3, 0};
        int[] place = {0, 1, 0, 1, 1};
        for (int t = 0; t < 5; t++) {
            due("traveller(" + t + ", 0)", x.traveller(t, 0), place[t]);
            due("traveller(" + t + ", 1)", x.traveller(t, 1), breath[t]);
            due("traveller(" + t + ", 2)", x.traveller(t, 2), kind[t]);
        }
        due("traveller(5, 0)", x.traveller(5, 0), UNKNOWN);
    }

    static void p07_travellersBeyondAreUnknownAndChangeNothing() {
        for (int traveller : Edges.beyond(0, Edges.BUSY_TRAVELLERS - 1)) {
            for (int what = 0; what <= 5; what++) {
                int asked = what;
                Edges.leavesBusy("traveller(" + traveller + ", " + what + ")", x -> x.traveller(traveller, asked), UNKNOWN);
            }
        }
    }

    static void p07_whatBeyondIsOutsideAndChangesNothing() {
        for (int what : Edges.beyond(0, 5)) {
            Edges.leavesBusy("traveller(0, " + what + ")", x -> x.traveller(0, what), OUTSIDE);
            Edges.leavesBusy("traveller(3, " + what + ")", x -> x.traveller(3, what), OUTSIDE);
        }
    }

    static void p07_unknownGoesAheadOfOutside() {
        due("traveller(-1, -1)", on("RT010").traveller(-1, -1), UNKNOWN);
        due("traveller(1, 6)", on("RT010").traveller(1, 6), UNKNOWN);
    }

    static void p07_askingChangesNothing() {
        int[] first = {1, 9, 0, 4, 4, 2};
        for (int what = 0; what <= 5; what++) {
            int asked = what;
            Edges.leavesBusy("traveller(0, " + what + ")", x -> x.traveller(0, asked), first[what]);
        }
    }

    static void p07_atTheEndsThereIsNoPleatToPayFor() {
        PleatRoads x = on("RF20T010T110");
        due("back at place 0", x.traveller(0, 4), NONE);
        due("on at place 0", x.traveller(0, 5), 2);
        due("back at place 1", x.traveller(1, 4), 2);
        due("on at place 1", x.traveller(1, 5), NONE);
        PleatRoads y = on("RT010");
        due("back without pleats", y.traveller(0, 4), NONE);
        due("on without pleats", y.traveller(0, 5), NONE);
        PleatRoads z = on(TEN + "T910");
        due("on at place 9", z.traveller(0, 5), 1);
        z.step(0, true);
        due("on at place 10", z.traveller(0, 5), NONE);
        due("back at place 10", z.traveller(0, 4), 1);
    }

    private static void pays(int kind, int... want) {
        for (int stiffness = 1; stiffness <= 9; stiffness++) {
            PleatRoads x = on("RF" + stiffness + "0T09" + kind + "T19" + kind);
            due("what kind " + kind + " pays on for " + stiffness, x.traveller(0, 5), want[stiffness]);
            due("what kind " + kind + " pays back for " + stiffness, x.traveller(1, 4), want[stiffness]);
        }
        PleatRoads x = on("RF90T093T09" + kind + "T19" + kind);
        x.step(0, true);
        due("what kind " + kind + " pays on for an open one", x.traveller(1, 5), want[0]);
        due("what kind " + kind + " pays back for an open one", x.traveller(2, 4), want[0]);
    }

    static void p07_plainOnesAndLungsPayWhatItCosts() {
        pays(0, 0, 1, 2, 3, 4, 5, 6, 7, 8, 9);
        pays(3, 0, 1, 2, 3, 4, 5, 6, 7, 8, 9);
    }

    static void p07_stoutOnesPayHalfCut() {
        pays(1, 0, 0, 1, 1, 2, 2, 3, 3, 4, 4);
    }

    static void p07_asthmaticsPay1More() {
        pays(2, 1, 2, 3, 4, 5, 6, 7, 8, 9, 10);
    }

    static void p07_whatIsPaidGoesWithFrostGreaseAndInns() {
        PleatRoads x = on("RF91F93T190T191T192");
        int[] back = {4, 2, 5};
        int[] frozen = {7, 3, 8};
        int[] greased = {5, 2, 6};
        int[] inn = {1, 0, 2};
        for (int t = 0; t < 3; t++) {
            due("traveller(" + t + ", 4)", x.traveller(t, 4), back[t]);
        }
        for (int i = 0; i < 5; i++) {
            x.freeze();
        }
        for (int t = 0; t < 3; t++) {
            due("traveller(" + t + ", 4) in frost", x.traveller(t, 4), frozen[t]);
        }
        x.grease(0);
        for (int t = 0; t < 3; t++) {
            due("traveller(" + t + ", 4) greased", x.traveller(t, 4), greased[t]);
            due("traveller(" + t + ", 5) of an inn", x.traveller(t, 5), inn[t]);
        }
    }

    static void p07_whatIsPaidIsToldThoughWindIsLess() {
        PleatRoads x = on("RF90T012");
        due("traveller(0, 5)", x.traveller(0, 5), 10);
        due("traveller(0, 3)", x.traveller(0, 3), 1);
    }

    public static void main(String[] args) throws ReflectiveOperationException {
        Edges.run(RoadEdgesTest.class, 1, 7);
    }
}
