/** The edges of promises 8 to 13: steps, rests, grease, frost, thaws, all undone. */
public final class ActEdgesTest {
    private static final int UNKNOWN = -1, STATE = -3;

    private static void due(String call, long got, long want) {
        Edges.due(call, got, want);
    }

    private static PleatRoads on(String text) {
        return Edges.on(text);
    }

    /** A road whose one pleat was opened by lungs (the last traveller), who stand at place 0. */
    private static PleatRoads opened(String travellers, int lungs) {
        PleatRoads x = on("RF30" + travellers);
        for (int t = 0; t < lungs; t++) {
            x.step(t, false);
        }
        x.step(lungs, false);
        due("count(6)", x.count(6), 1);
        return x;
    }

    // ---- promise 8

    static void p08_travellersBeyondAreUnknownAndChangeNothing() {
        for (int traveller : Edges.beyond(0, Edges.BUSY_TRAVELLERS - 1)) {
            Edges.leavesBusy("step(" + traveller + ", true)", x -> x.step(traveller, true), UNKNOWN);
            Edges.leavesBusy("step(" + traveller + ", false)", x -> x.step(traveller, false), UNKNOWN);
        }
        due("step(4, true)", on("RF10T010T010T010T010T010").step(4, true), 1);
        due("step(5, true)", on("RF10T010T010T010T010T010").step(5, true), UNKNOWN);
    }

    static void p08_itAnswersThePlaceBeyond() {
        PleatRoads x = on(Edges.TEN_INNS + "T010");
        for (int place = 1; place <= 10; place++) {
            due("step(0, true)", x.step(0, true), place);
            due("traveller(0, 0)", x.traveller(0, 0), place);
        }
        for (int place = 9; place >= 0; place--) {
            due("step(0, false)", x.step(0, false), place);
            due("traveller(0, 0)", x.traveller(0, 0), place);
        }
    }

    private static PleatRoads busyAtTheEnds() {
        PleatRoads x = Edges.busy();
        // Lungs go on through what they opened to 3, and over the inn to 4.
        x.step(3, true);
        x.step(3, true);
        return x;
    }

    static void p08_fromPlace0ThereIsNoStepBack() {
        Edges.leavesBusy("step(1, false) at place 0", x -> x.step(1, false), STATE);
        Edges.leavesAll("step(0, false) at place 0", () -> on("RF10T090"), x -> x.step(0, false), STATE);
    }

    static void p08_fromTheLastPlaceThereIsNoStepOn() {
        due("traveller(3, 0)", busyAtTheEnds().traveller(3, 0), 4);
        Edges.leavesAll("step(3, true) at the last place", ActEdgesTest::busyAtTheEnds, x -> x.step(3, true), STATE);
        Edges.leavesAll("step(0, true) at place 1 of 1", () -> on("RF10T190"), x -> x.step(0, true), STATE);
    }

    private static PleatRoads atPlace10() {
        PleatRoads x = on(Edges.TEN_SOFT + "T990");
        due("step(0, true)", x.step(0, true), 10);
        return x;
    }

    static void p08_place10IsTheLastThatThereCanBe() {
        Edges.leavesAll("step(0, true) at place 10", ActEdgesTest::atPlace10, x -> x.step(0, true), STATE);
        due("step(0, false) at place 10", atPlace10().step(0, false), 9);
    }

    static void p08_withoutPleatsThereIsNoStep() {
        Edges.leavesAll("step(0, true)", () -> on("RT093"), x -> x.step(0, true), STATE);
        Edges.leavesAll("step(0, false)", () -> on("RT093"), x -> x.step(0, false), STATE);
    }

    static void p08_asMuchWindAsItPaysIsEnoughOneLessIsNot() {
        for (int stiffness = 1; stiffness <= 9; stiffness++) {
            for (int breath = 1; breath <= 9; breath++) {
                PleatRoads x = on("RF" + stiffness + "0T0" + breath + "0");
                boolean can = breath >= stiffness;
                due("step(0, true) for " + stiffness + " of " + breath, x.step(0, true), can ? 1 : STATE);
                due("wind", x.traveller(0, 3), can ? breath - stiffness : breath);
                due("count(3)", x.count(3), can ? 1 : 0);
            }
        }
    }

    static void p08_tooLittleWindChangesNothing() {
        Edges.leavesAll("step(0, true)", () -> on("RF50T040"), x -> x.step(0, true), STATE);
        Edges.leavesAll("step(0, false)", () -> on("RF50T140"), x -> x.step(0, false), STATE);
        Edges.leavesAll("step(2, false)", ActEdgesTest::busyInDeepFrost, x -> x.step(2, false), STATE);
        Edges.leavesAll("step(0, false)", ActEdgesTest::busyInDeepFrost, x -> x.step(0, false), STATE);
    }

    private static PleatRoads busyInDeepFrost() {
        PleatRoads x = Edges.busy();
        for (int i = 0; i < 4; i++) {
            x.freeze();
        }
        // The asthmatic pays 5 of 8 for the cracked pleat; the plain one, greased, costs 8 then.
        x.step(2, false);
        return x;
    }

    static void p08_aStoutOneWithoutWindStepsForHalfOf1() {
        PleatRoads x = on("RF20F10F10T011");
        due("half of 2", x.step(0, true), 1);
        due("wind", x.traveller(0, 3), 0);
        due("half of 1", x.step(0, true), 2);
        due("wind", x.traveller(0, 3), 0);
        due("half of 2", on("RF20T011").step(0, true), 1);
        due("half of 3", on("RF30T011").step(0, true), 1);
        due("half of 4", on("RF40T011").step(0, true), STATE);
    }

    static void p08_anAsthmaticPays1More() {
        due("4 and 1 of 5", on("RF40T052").step(0, true), 1);
        due("4 and 1 of 4", on("RF40T042").step(0, true), STATE);
        due("9 and 1 of 9", on("RF90T092").step(0, true), STATE);
        due("8 and 1 of 9", on("RF80T092").step(0, true), 1);
    }

    static void p08_throughAnOpenOneAPlainOneStepsWithoutWind() {
        PleatRoads x = opened("T130T193", 1);
        due("traveller(0, 3)", x.traveller(0, 3), 0);
        due("step(0, true)", x.step(0, true), 1);
        due("traveller(0, 3)", x.traveller(0, 3), 0);
        due("count(6)", x.count(6), 0);
    }

    static void p08_throughAnOpenOneAnAsthmaticNeeds1() {
        Edges.leavesAll("step(0, true) with 0", () -> opened("T142T193", 1), x -> x.step(0, true), STATE);
        PleatRoads y = opened("T152T193", 1);
        due("step(0, true) with 1", y.step(0, true), 1);
        due("traveller(0, 3)", y.traveller(0, 3), 0);
    }

    static void p08_anInnIsPaidForFirst() {
        PleatRoads x = on("RF30F93T030T040T042T052T031");
        due("plain", x.step(0, true), 1);
        due("plain, with 0 of 1", x.step(0, true), STATE);
        due("plain", x.step(1, true), 1);
        due("plain, with 1 of 1", x.step(1, true), 2);
        due("asthmatic", x.step(2, true), 1);
        due("asthmatic, with 0 of 2", x.step(2, true), STATE);
        due("asthmatic", x.step(3, true), 1);
        due("asthmatic, with 1 of 2", x.step(3, true), STATE);
        due("asthmatic, with 2 of 2", on("RF93T022").step(0, true), 1);
        PleatRoads y = on("RF20F93T011");
        due("stout", y.step(0, true), 1);
        due("stout, with 0 of 0", y.step(0, true), 2);
    }

    static void p08_behindAnInnWindIsBreathAgain() {
        for (int kind = 0; kind <= 3; kind++) {
            PleatRoads x = on("RF50F93T09" + kind);
            x.step(0, true);
            due("step(0, true)", x.step(0, true), 2);
            due("wind behind an inn", x.traveller(0, 3), 9);
            due("step(0, false)", x.step(0, false), 1);
            due("wind behind an inn", x.traveller(0, 3), 9);
        }
        PleatRoads y = on("RF13T040");
        due("step(0, true)", y.step(0, true), 1);
        due("wind, full ahead of it", y.traveller(0, 3), 4);
    }

    static void p08_anOpenInnGivesBreathForNothing() {
        PleatRoads x = on("RF30F93T030T193");
        due("step(0, true)", x.step(0, true), 1);
        due("lungs over the inn", x.step(1, true), 2);
        due("traveller(0, 5)", x.traveller(0, 5), 0);
        due("step(0, true) without wind", x.step(0, true), 2);
        due("traveller(0, 3)", x.traveller(0, 3), 3);
    }

    static void p08_noPleatIsOpenBehindOthersThanLungs() {
        for (int kind = 0; kind <= 2; kind++) {
            PleatRoads x = on("RF10F10T09" + kind + "T193");
            x.step(1, true);
            due("count(6)", x.count(6), 2);
            due("step(0, true)", x.step(0, true), 1);
            due("count(6)", x.count(6), 0);
        }
    }

    static void p08_justTheLastPleatIsOpenBehindLungs() {
        PleatRoads x = on(Edges.TEN_SOFT + "T093T993");
        for (int place = 1; place <= 9; place++) {
            x.step(0, true);
            due("count(6)", x.count(6), 1 << place - 1);
        }
        x.step(1, true);
        due("count(6)", x.count(6), 512);
        due("step(0, true) through it", x.step(0, true), 10);
        due("traveller(0, 3)", x.traveller(0, 3), 0);
        due("count(6)", x.count(6), 512);
    }

    static void p08_theStepIsOneMoreAndItIsAnAct() {
        PleatRoads x = Edges.busy();
        due("step(3, true)", x.step(3, true), 3);
        due("count(3)", x.count(3), 5);
        due("count(9)", x.count(9), 7);
    }

    static void p08_aStepChangesNothingButWhatIsTold() {
        PleatRoads x = Edges.busy();
        x.step(3, true);
        due("count(4)", x.count(4), 1);
        due("count(5)", x.count(5), 5);
        due("traveller(3, 3)", x.traveller(3, 3), 3);
        int[] wind = {4, 4, 8};
        int[] place = {1, 0, 2};
        for (int t = 0; t < 3; t++) {
            due("traveller(" + t + ", 0)", x.traveller(t, 0), place[t]);
            due("traveller(" + t + ", 3)", x.traveller(t, 3), wind[t]);
        }
        due("undo()", x.undo(), 6);
        Edges.alike("behind a step undone", x, Edges.busy());
    }

    // ---- promise 9

    static void p09_travellersBeyondAreUnknownAndChangeNothing() {
        for (int traveller : Edges.beyond(0, Edges.BUSY_TRAVELLERS - 1)) {
            Edges.leavesBusy("rest(" + traveller + ")", x -> x.rest(traveller), UNKNOWN);
        }
        due("rest(4)", on("RT010T010T010T010T070").rest(4), 7);
        due("rest(5)", on("RT010T010T010T010T070").rest(5), UNKNOWN);
    }

    static void p09_halfOfBreathIsCutAnd1AtLeast() {
        int[] half = {0, 1, 1, 1, 2, 2, 3, 3, 4, 4};
        for (int breath = 1; breath <= 9; breath++) {
            PleatRoads x = on("RF" + breath + "0T0" + breath + "0");
            x.step(0, true);
            due("rest(0) of breath " + breath, x.rest(0), half[breath]);
        }
    }

    static void p09_windIsBreathAtMost() {
        PleatRoads x = on("RF90T090");
        x.step(0, true);
        int[] wind = {4, 8, 9, 9};
        for (int i = 0; i < 4; i++) {
            due("rest(0)", x.rest(0), wind[i]);
            due("traveller(0, 3)", x.traveller(0, 3), wind[i]);
        }
        due("rest(0) of breath 1, full", on("RT010").rest(0), 1);
    }

    static void p09_aRestWithFullWindIsAnActToo() {
        PleatRoads x = on("RF10T010T193");
        x.step(1, false);
        due("count(6)", x.count(6), 1);
        due("rest(0)", x.rest(0), 1);
        due("count(3)", x.count(3), 2);
        due("count(9)", x.count(9), 2);
        due("count(6)", x.count(6), 0);
        due("undo()", x.undo(), 1);
        due("count(6)", x.count(6), 1);
    }

    static void p09_behindARestNoPleatIsOpen() {
        for (int t = 0; t < 4; t++) {
            PleatRoads x = Edges.busy();
            due("count(6)", x.count(6), 4);
            x.rest(t);
            due("count(6) behind rest(" + t + ")", x.count(6), 0);
        }
    }

    static void p09_aRestChangesNothingButWhatIsTold() {
        PleatRoads x = Edges.busy();
        due("rest(0)", x.rest(0), 8);
        due("count(3)", x.count(3), 5);
        due("count(4)", x.count(4), 1);
        due("count(5)", x.count(5), 5);
        due("count(7)", x.count(7), 7);
        due("count(8)", x.count(8), 23);
        due("count(9)", x.count(9), 7);
    }

    // ---- promise 10

    static void p10_pleatsBeyondAreUnknownAndChangeNothing() {
        for (int pleat : Edges.beyond(0, Edges.BUSY_PLEATS - 1)) {
            Edges.leavesBusy("grease(" + pleat + ")", x -> x.grease(pleat), UNKNOWN);
        }
        due("grease(9)", on(Edges.TEN_STIFF).grease(9), 7);
        due("grease(10)", on(Edges.TEN_STIFF).grease(10), UNKNOWN);
    }

    static void p10_whatIsGreasedIsRefusedAndChangesNothing() {
        Edges.leavesBusy("grease(0), greased ahead of it", x -> x.grease(0), STATE);
        Edges.leavesBusy("grease(2), a smooth one, open", x -> x.grease(2), STATE);
        Edges.leavesAll("grease(0), a smooth one", () -> on("RF92"), x -> x.grease(0), STATE);
    }

    static void p10_eachOneCanBeGreasedOnce() {
        PleatRoads x = on(Edges.TEN_STIFF);
        for (int k = 9; k >= 0; k--) {
            due("grease(" + k + ")", x.grease(k), 7);
            due("grease(" + k + ")", x.grease(k), STATE);
            due("count(5)", x.count(5), 1024 - (1 << k));
        }
    }

    static void p10_itAnswersWhatItCosts1AtLeast() {
        int[] plain = {1, 1, 1, 2, 3, 4, 5, 6, 7};
        int[] cracked = {1, 1, 1, 1, 1, 1, 1, 2, 2};
        for (int s = 1; s <= 9; s++) {
            due("grease(0) of F" + s + "0", on("RF" + s + "0").grease(0), plain[s - 1]);
            due("grease(0) of F" + s + "1", on("RF" + s + "1").grease(0), cracked[s - 1]);
            due("grease(0) of F" + s + "3", on("RF" + s + "3").grease(0), 1);
        }
        PleatRoads x = on("RF90");
        for (int i = 0; i < 5; i++) {
            x.freeze();
        }
        due("grease(0) in frost 5", x.grease(0), 12);
    }

    static void p10_anOpenOneCosts0AndStaysOpen() {
        PleatRoads x = on("RF90T093");
        x.step(0, true);
        due("grease(0)", x.grease(0), 0);
        due("count(6)", x.count(6), 1);
        x.rest(0);
        due("pleat(0, 2)", x.pleat(0, 2), 7);
    }

    static void p10_itIsAnActButNoStep() {
        PleatRoads x = Edges.busy();
        due("grease(3)", x.grease(3), 1);
        due("count(9)", x.count(9), 7);
        due("count(3)", x.count(3), 4);
        due("count(5)", x.count(5), 13);
        due("count(6)", x.count(6), 4);
        due("undo()", x.undo(), 6);
        Edges.alike("behind grease undone", x, Edges.busy());
    }

    // ---- promise 11

    private static PleatRoads frozenBusy() {
        PleatRoads x = Edges.busy();
        for (int frost = 2; frost <= 5; frost++) {
            due("freeze()", x.freeze(), frost);
        }
        return x;
    }

    static void p11_frostIs5AtMost() {
        PleatRoads x = on("RF10");
        for (int frost = 1; frost <= 5; frost++) {
            due("freeze()", x.freeze(), frost);
            due("count(4)", x.count(4), frost);
        }
        due("freeze()", x.freeze(), STATE);
        due("count(4)", x.count(4), 5);
        due("count(9)", x.count(9), 5);
    }

    static void p11_theSixthIsRefusedAndChangesNothing() {
        Edges.leavesAll("freeze() at 5", ActEdgesTest::frozenBusy, x -> x.freeze(), STATE);
    }

    static void p11_behindAThawOrAnUndoItCanBeAgain() {
        PleatRoads x = frozenBusy();
        due("undo()", x.undo(), 9);
        due("freeze()", x.freeze(), 5);
        due("thaw()", x.thaw(), 5);
        due("freeze()", x.freeze(), 1);
    }

    static void p11_itIsAnActButNoStepAndShutsNothing() {
        PleatRoads x = Edges.busy();
        due("freeze()", x.freeze(), 2);
        due("count(9)", x.count(9), 7);
        due("count(3)", x.count(3), 4);
        due("count(6)", x.count(6), 4);
        due("undo()", x.undo(), 6);
        Edges.alike("behind frost undone", x, Edges.busy());
    }

    static void p11_itFreezesWithoutARoadToo() {
        PleatRoads x = new PleatRoads();
        due("freeze()", x.freeze(), 1);
        due("undo()", x.undo(), 0);
        due("count(4)", x.count(4), 0);
    }

    // ---- promise 12

    private static PleatRoads thawedBusy() {
        PleatRoads x = Edges.busy();
        due("thaw()", x.thaw(), 1);
        return x;
    }

    static void p12_withoutFrostItIsRefusedAndChangesNothing() {
        Edges.leavesAll("thaw() at 0", ActEdgesTest::thawedBusy, x -> x.thaw(), STATE);
        Edges.leavesAll("thaw() at first", () -> on("RF10T010"), x -> x.thaw(), STATE);
    }

    static void p12_itAnswersWhatFrostWas1To5() {
        PleatRoads x = on("RF10");
        for (int frost = 1; frost <= 5; frost++) {
            for (int i = 0; i < frost; i++) {
                x.freeze();
            }
            due("thaw()", x.thaw(), frost);
            due("count(4)", x.count(4), 0);
            due("thaw()", x.thaw(), STATE);
        }
    }

    static void p12_itIsAnActButNoStepAndShutsNothing() {
        PleatRoads x = Edges.busy();
        due("thaw()", x.thaw(), 1);
        due("count(9)", x.count(9), 7);
        due("count(3)", x.count(3), 4);
        due("count(6)", x.count(6), 4);
        due("count(5)", x.count(5), 5);
        due("pleat(0, 2)", x.pleat(0, 2), 3);
        due("undo()", x.undo(), 6);
        Edges.alike("behind a thaw undone", x, Edges.busy());
    }

    // ---- promise 13

    private static PleatRoads allUndone() {
        PleatRoads x = Edges.busy();
        for (int left = 5; left >= 0; left--) {
            due("undo()", x.undo(), left);
        }
        return x;
    }

    static void p13_withoutActsItIsRefusedAndChangesNothing() {
        Edges.leavesAll("undo() of none", ActEdgesTest::allUndone, x -> x.undo(), STATE);
        Edges.leavesAll("undo() at first", () -> on("RF10T010"), x -> x.undo(), STATE);
        Edges.leavesAll("undo() without a road", PleatRoads::new, x -> x.undo(), STATE);
    }

    static void p13_allActsUndoneAllIsAsAtFirst() {
        PleatRoads x = allUndone();
        PleatRoads y = on("RF50F31F42F93T090T161T282T363");
        for (int what = 1; what <= 9; what++) {
            due("count(" + what + ")", x.count(what), y.count(what));
        }
    }

    /** Act by act on one road of soft pleats, each kind of act in turn. */
    private static void act(PleatRoads x, int number) {
        switch (number % 5) {
            case 0: x.step(0, true); break;
            case 1: x.freeze(); break;
            case 2: x.rest(0); break;
            case 3: x.grease(number / 5); break;
            default: x.thaw();
        }
    }

    private static PleatRoads acted(int acts) {
        PleatRoads x = on(Edges.TEN_SOFT + "T093");
        for (int i = 0; i < acts; i++) {
            act(x, i);
        }
        due("count(9) behind " + acts, x.count(9), Math.min(14, acts));
        return x;
    }

    /** All but the row of acts, which is as long as it may be. */
    private static void standsAs(PleatRoads x, PleatRoads y, String when) {
        for (int what = 0; what <= 8; what++) {
            due(when + " count(" + what + ")", x.count(what), y.count(what));
        }
        due(when + " place", x.traveller(0, 0), y.traveller(0, 0));
        due(when + " wind", x.traveller(0, 3), y.traveller(0, 3));
        for (int k = 0; k < 10; k++) {
            due(when + " pleat(" + k + ", 2)", x.pleat(k, 2), y.pleat(k, 2));
        }
    }

    static void p13_fourteenActsAreUndoneToTheFirst() {
        PleatRoads x = acted(14);
        for (int left = 13; left >= 0; left--) {
            due("undo()", x.undo(), left);
            standsAs(x, acted(left), left + " left:");
        }
        due("undo()", x.undo(), STATE);
    }

    static void p13_ofFifteenTheFirstIsForgotten() {
        PleatRoads x = acted(15);
        for (int left = 13; left >= 0; left--) {
            due("undo()", x.undo(), left);
        }
        due("undo()", x.undo(), STATE);
        standsAs(x, acted(1), "behind 14 undone of 15:");
    }

    static void p13_theRowGoesRoundMoreThanOnce() {
        for (int acts = 16; acts <= 45; acts++) {
            PleatRoads x = acted(acts);
            for (int left = 13; left >= 0; left--) {
                due("undo()", x.undo(), left);
                if (left % 5 == 3 || left == 0) {
                    standsAs(x, acted(acts - 14 + left), acts + " acts, " + left + " left:");
                }
            }
            due("undo()", x.undo(), STATE);
        }
    }

    static void p13_behindUndosActsGoOnInTheRow() {
        PleatRoads x = acted(20);
        for (int i = 0; i < 5; i++) {
            x.undo();
        }
        due("count(9)", x.count(9), 9);
        for (int i = 15; i < 20; i++) {
            act(x, i);
        }
        due("count(9)", x.count(9), 14);
        Edges.alike("5 undone and done again", x, acted(20));
    }

    static void p13_refusedActsAreNotInTheRow() {
        PleatRoads x = on("RF90T010");
        x.step(0, true);
        x.step(1, true);
        x.rest(1);
        x.grease(1);
        x.thaw();
        due("count(9)", x.count(9), 0);
        x.grease(0);
        x.grease(0);
        due("count(9)", x.count(9), 1);
        due("undo()", x.undo(), 0);
        due("count(5)", x.count(5), 0);
    }

    static void p13_theTextHeardTheSeedAndWhatIsKeptAreNotUndone() {
        PleatRoads x = on("RF10T090");
        x.step(0, true);
        x.keep(0);
        x.hear(1, 1);
        x.seed(5);
        x.write('F');
        due("undo()", x.undo(), 0);
        due("count(0)", x.count(0), 9);
        due("count(10)", x.count(10), 1);
        due("seed(0)", x.seed(0), 5);
        due("again(0)", x.again(0), 1);
        due("traveller(0, 0)", x.traveller(0, 0), 1);
    }

    public static void main(String[] args) throws ReflectiveOperationException {
        Edges.run(ActEdgesTest.class, 8, 13);
    }
}
