/** The edges of promises 14 to 19: who comes where, and told doings. */
public final class WhereEdgesTest {
    private static final int UNKNOWN = -1, OUTSIDE = -2, NONE = -9;

    private static void due(String call, long got, long want) {
        Edges.due(call, got, want);
    }

    private static PleatRoads on(String text) {
        return Edges.on(text);
    }

    // ---- promise 14

    static void p14_travellersBeyondAreUnknownAndChangeNothing() {
        for (int traveller : Edges.beyond(0, Edges.BUSY_TRAVELLERS - 1)) {
            Edges.leavesBusy("reach(" + traveller + ")", x -> x.reach(traveller), UNKNOWN);
        }
        due("reach(4)", on("RT010T010T010T010T010").reach(4), 1);
        due("reach(5)", on("RT010T010T010T010T010").reach(5), UNKNOWN);
    }

    static void p14_itChangesNothing() {
        // Costs are 4, 2, 0 (open), 1. Plain: 4 back from 1, or 2 on and then 3 are too many.
        Edges.leavesBusy("reach(0)", x -> x.reach(0), 7);
        // Stout, 4: 2 on, 1 on, 1 on, and the inn for nothing.
        Edges.leavesBusy("reach(1)", x -> x.reach(1), 31);
        // Asthmatic, 8: 1 on, and 2 for the inn; back 3, then 5.
        Edges.leavesBusy("reach(2)", x -> x.reach(2), 31);
        // Lungs, 3: on for nothing, 1 for the inn; with 6 again back by 1 and 3; from 2, of 3, 2 back to 1.
        Edges.leavesBusy("reach(3)", x -> x.reach(3), 30);
    }

    static void p14_itsOwnPlaceIsInIt() {
        due("without pleats", on("RT010").reach(0), 1);
        for (int place = 0; place <= 9; place++) {
            due("shut in at " + place, on(Edges.TEN_STIFF + "T" + place + "10").reach(0), 1 << place);
        }
        PleatRoads x = on("RF90F90F90F90F90F90F90F90F90F30T930");
        x.step(0, true);
        due("shut in at 10", x.reach(0), 1024);
    }

    static void p14_allElevenPlacesCanBeInIt() {
        for (int place = 0; place <= 9; place++) {
            due("by inns from " + place, on(Edges.TEN_INNS + "T" + place + "10").reach(0), 2047);
        }
        due("stout ones without wind", on(Edges.TEN_SOFT + "T511").reach(0), 2047);
        due("9 of 10", on(Edges.TEN_SOFT + "T090").reach(0), 1023);
    }

    static void p14_windIsEnoughIfItIsJustAsMuch() {
        for (int breath = 1; breath <= 9; breath++) {
            due("5 of " + breath, on("RF50T0" + breath + "0").reach(0), breath >= 5 ? 3 : 1);
            due("half of 5 of " + breath, on("RF50T0" + breath + "1").reach(0), breath >= 2 ? 3 : 1);
            due("5 and 1 of " + breath, on("RF50T0" + breath + "2").reach(0), breath >= 6 ? 3 : 1);
            due("4 and 3 of " + breath, on("RF40F30T0" + breath + "0").reach(0), breath >= 7 ? 7 : breath >= 4 ? 3 : 1);
        }
    }

    static void p14_itGoesOnTheWindThatIsLeft() {
        PleatRoads x = on("RF40F40F40T090");
        due("with 9", x.reach(0), 7);
        x.step(0, true);
        due("with 5", x.reach(0), 7);
        x.step(0, true);
        due("with 1", x.reach(0), 4);
        x.rest(0);
        due("with 5", x.reach(0), 14);
    }

    static void p14_anInnOnTheWayGivesBreathAgainIfItIsPaid() {
        due("0 of 1 at the inn", on("RF30F93F30T030").reach(0), 3);
        due("1 of 1 at the inn", on("RF30F93F30T040").reach(0), 15);
        due("1 of 2 at the inn", on("RF30F93F30T052").reach(0), 3);
        due("2 of 2 at the inn", on("RF30F93F30T062").reach(0), 15);
        due("0 of 0 at the inn", on("RF30F93F30T011").reach(0), 15);
    }

    static void p14_itMayGoBackForBreathFirst() {
        PleatRoads x = on("RF93F10F80T190");
        x.step(0, true);
        x.step(0, false);
        // With 7 of 9 at 1: 1 and 8 on are too many; by the inn and back with 9 they are not.
        due("reach(0)", x.reach(0), 15);
        PleatRoads y = on("RF90F10F80T190");
        y.step(0, true);
        y.step(0, false);
        due("reach(0) without an inn", y.reach(0), 6);
    }

    static void p14_whatIsOpenIsForTheFirstStepAlone() {
        PleatRoads x = on("RF50T010T193");
        x.step(1, false);
        due("beside it", x.reach(0), 3);
        x.rest(0);
        due("shut", x.reach(0), 1);
        PleatRoads y = on("RF10F50T010T193");
        y.step(1, true);
        due("farther on it is shut by the first step", y.reach(0), 3);
        PleatRoads z = on("RF50F10T293T110");
        z.step(0, false);
        z.step(0, false);
        due("open behind", z.count(6), 1);
        due("back through it", z.reach(1), 7);
    }

    static void p14_frostAndGreaseCountInIt() {
        PleatRoads x = on("RF50T050");
        x.freeze();
        due("6 of 5", x.reach(0), 1);
        x.grease(0);
        due("4 of 5", x.reach(0), 3);
        x.freeze();
        due("5 of 5", x.reach(0), 3);
        x.freeze();
        due("6 of 5", x.reach(0), 1);
    }

    // ---- promise 15

    static void p15_travellersBeyondAreUnknownAndChangeNothing() {
        for (int traveller : Edges.beyond(0, Edges.BUSY_TRAVELLERS - 1)) {
            Edges.leavesBusy("fewest(" + traveller + ", 0)", x -> x.fewest(traveller, 0), UNKNOWN);
            Edges.leavesBusy("fewest(" + traveller + ", 9)", x -> x.fewest(traveller, 9), UNKNOWN);
        }
    }

    static void p15_placesBeyondAreUnknownAndChangeNothing() {
        for (int place : Edges.beyond(0, Edges.BUSY_PLEATS)) {
            Edges.leavesBusy("fewest(0, " + place + ")", x -> x.fewest(0, place), UNKNOWN);
        }
        due("fewest(0, 10)", on(Edges.TEN_INNS + "T010").fewest(0, 10), 10);
        due("fewest(0, 11)", on(Edges.TEN_INNS + "T010").fewest(0, 11), UNKNOWN);
        due("fewest(0, 0)", on("RT010").fewest(0, 0), 0);
        due("fewest(0, 1)", on("RT010").fewest(0, 1), UNKNOWN);
    }

    static void p15_itChangesNothing() {
        // The plain one at 1 with 4 of 9: 2 on, a rest, 3 on, 1 on.
        int[] plain = {1, 0, 1, 3, 4};
        for (int place = 0; place <= 4; place++) {
            int there = place;
            Edges.leavesBusy("fewest(0, " + place + ")", x -> x.fewest(0, there), plain[place]);
        }
        Edges.leavesAll("fewest(0, 1), NONE", () -> on("RF90T010"), x -> x.fewest(0, 1), NONE);
    }

    static void p15_itIs0WhereItIs() {
        for (int place = 0; place <= 9; place++) {
            due("fewest(0, " + place + ")", on(Edges.TEN_STIFF + "T" + place + "10").fewest(0, place), 0);
        }
        PleatRoads x = on("RF90T090");
        x.step(0, true);
        due("fewest(0, 1) without wind", x.fewest(0, 1), 0);
    }

    static void p15_30AreTold31AreNone() {
        // A pleat of 9 wants three rests and a step of breath 9 with no wind: 4, 8, 9.
        PleatRoads x = on(Edges.TEN_STIFF + "T090");
        due("1 and 7 times 4", x.fewest(0, 8), 29);
        due("1 and 8 times 4", x.fewest(0, 9), NONE);
        x.step(0, true);
        x.rest(0);
        due("3 and 7 times 4", x.fewest(0, 9), NONE);
        x.rest(0);
        due("2 and 7 times 4", x.fewest(0, 9), 30);
        x.rest(0);
        due("1 and 7 times 4", x.fewest(0, 9), 29);
        due("1 and 8 times 4", x.fewest(0, 10), NONE);
    }

    static void p15_whatNoRestBringsIsNone() {
        due("5 of 4", on("RF50T040").fewest(0, 1), NONE);
        due("5 of 5", on("RF50T050").fewest(0, 1), 1);
        due("an asthmatic, 6 of 5", on("RF50T052").fewest(0, 1), NONE);
        due("an asthmatic of 1 at an inn", on("RF93T012").fewest(0, 1), NONE);
    }

    static void p15_restsCountAsStepsDo() {
        // Breath 1: step, rest, step, rest ..
        PleatRoads x = on(Edges.TEN_SOFT + "T010");
        for (int place = 1; place <= 10; place++) {
            due("fewest(0, " + place + ")", x.fewest(0, place), 2 * place - 1);
        }
        // Breath 3 on pleats of 3: a rest is 1.
        PleatRoads y = on("RF30F30F30T030");
        due("3 rests each", y.fewest(0, 3), 9);
    }

    static void p15_aWayByAnInnMayBeShorterThanRests() {
        PleatRoads x = on("RF93F60T231");
        x.step(0, false);
        due("wind", x.traveller(0, 3), 0);
        // Three rests and a step; or back over the inn and on again for nothing, with 3, and a step.
        due("fewest(0, 2) by the inn", x.fewest(0, 2), 3);
        PleatRoads y = on("RF90F60T231");
        y.step(0, false);
        due("fewest(0, 2) without an inn", y.fewest(0, 2), 4);
    }

    static void p15_aRestShutsWhatIsOpen() {
        PleatRoads x = on("RF90F90T193");
        x.step(0, true);
        due("back through it", x.fewest(0, 1), 1);
        due("through it first, then three rests and a step", x.fewest(0, 0), 5);
    }

    // ---- promise 16

    static void p16_travellersBeyondAreUnknownAndChangeNothing() {
        for (int traveller : Edges.beyond(0, Edges.BUSY_TRAVELLERS - 1)) {
            Edges.leavesBusy("wants(" + traveller + ", 0)", x -> x.wants(traveller, 0), UNKNOWN);
            Edges.leavesBusy("wants(" + traveller + ", 9)", x -> x.wants(traveller, 9), UNKNOWN);
        }
    }

    static void p16_placesBeyondAreUnknownAndChangeNothing() {
        for (int place : Edges.beyond(0, Edges.BUSY_PLEATS)) {
            Edges.leavesBusy("wants(0, " + place + ")", x -> x.wants(0, place), UNKNOWN);
        }
        due("wants(0, 10)", on(Edges.TEN_INNS + "T010").wants(0, 10), 0);
        due("wants(0, 11)", on(Edges.TEN_INNS + "T010").wants(0, 11), UNKNOWN);
        due("wants(0, 1)", on("RT010").wants(0, 1), UNKNOWN);
    }

    static void p16_itChangesNothing() {
        // 2 on, and 3 of 2 that are left; the cracked one for 1 leaves 3, none for the inn.
        Edges.leavesBusy("wants(0, 2)", x -> x.wants(0, 2), 0);
        Edges.leavesBusy("wants(0, 3)", x -> x.wants(0, 3), 2);
        Edges.leavesBusy("wants(0, 4)", x -> x.wants(0, 4), NONE);
    }

    static void p16_whatIsInReachWantsNone() {
        due("its own place", on(Edges.TEN_STIFF + "T510").wants(0, 5), 0);
        due("5 of 5", on("RF50T050").wants(0, 1), 0);
        due("5 of 4", on("RF50T040").wants(0, 1), 1);
        due("5 of 3", on("RF50T030").wants(0, 1), 1);
        due("5 of 2", on("RF50T020").wants(0, 1), NONE);
    }

    static void p16_fewestGoesAheadOfLeast() {
        due("one of 5 instead of two of 2", on("RF20F20F50T070").wants(0, 3), 4);
        due("two of 2 are too few", on("RF20F20F50T050").wants(0, 3), 7);
        due("5 and one of 2", on("RF20F20F50T060").wants(0, 3), 5);
    }

    static void p16_ofLikeOnesTheLeast() {
        due("one of three", on("RF50F50F50T090").wants(0, 2), 1);
        due("three of three", on("RF50F50F50T090").wants(0, 3), 7);
        due("one of 1, 2", on("RF10F50F50T090").wants(0, 3), 2);
        due("two of four", on("RF30F30F30F30T080").wants(0, 4), 3);
        due("five of ten", on("RF30F30F30F30F30F30F30F30F30F30T051").wants(0, 10), 31);
    }

    static void p16_whatIsGreasedIsNotTold() {
        PleatRoads x = on("RF50F52F50T090");
        due("wants(0, 3)", x.wants(0, 3), 5);
        x.grease(0);
        due("wants(0, 3)", x.wants(0, 3), 4);
        x.grease(2);
        due("wants(0, 3)", x.wants(0, 3), 0);
        PleatRoads y = on("RF52T020");
        due("nothing is left to be greased", y.wants(0, 1), NONE);
    }

    static void p16_upToAllPleatsAreTold() {
        String tens = "RF30F30F30F30F30F30F30F30F30F30";
        due("nine of 1 each of 9", on(tens + "T090").wants(0, 9), 511);
        due("ten of 1 each of 9", on(tens + "T090").wants(0, 10), NONE);
        PleatRoads x = on(tens + "T111");
        x.step(0, false);
        due("ten for nothing, without wind", x.wants(0, 10), 1023);
    }

    static void p16_greaseOnAnInnHelpsNobody() {
        due("an asthmatic of 1", on("RF93T012").wants(0, 1), NONE);
        due("before and behind it", on("RF50F93F50T040").wants(0, 3), 5);
    }

    // ---- promise 17

    static void p17_nobodyIsShutInWhereNobodyIs() {
        due("shutIn() without a road", new PleatRoads().shutIn(), 0);
        due("shutIn() without travellers", on(Edges.TEN_STIFF).shutIn(), 0);
    }

    static void p17_allFiveCanBe() {
        due("without pleats", on("RT010T091T092T093T090").shutIn(), 31);
        due("for 9", on("RF90T080T131T082T183T010").shutIn(), 31);
        due("none of five", on("RF93T010T111T022T113T190").shutIn(), 0);
    }

    static void p17_whoJustCanStepIsNot() {
        for (int breath = 1; breath <= 9; breath++) {
            PleatRoads x = on("RF50T0" + breath + "0T1" + breath + "1T0" + breath + "2T1" + breath + "3");
            due("of " + breath, x.shutIn(), breath >= 6 ? 0 : breath == 5 ? 4 : breath >= 2 ? 13 : 15);
        }
    }

    static void p17_oneSideIsEnough() {
        due("back", on("RF30F90T130").shutIn(), 0);
        due("on", on("RF90F30T130").shutIn(), 0);
        due("neither", on("RF90F90T130").shutIn(), 1);
    }

    static void p17_itGoesByWhatStands() {
        PleatRoads x = on("RF50T050T193");
        due("shutIn()", x.shutIn(), 0);
        x.freeze();
        due("in frost", x.shutIn(), 1);
        x.step(1, false);
        due("open", x.shutIn(), 0);
        x.rest(1);
        due("shut, of 7 for 6", x.shutIn(), 1);
    }

    static void p17_itChangesNothing() {
        Edges.leavesBusy("shutIn()", x -> x.shutIn(), 0);
        Edges.leavesAll("shutIn()", () -> on("RF90T010T093"), x -> x.shutIn(), 1);
    }

    // ---- promise 18

    static void p18_travellersBeyondAreUnknownAndChangeNothing() {
        for (int traveller : Edges.beyond(0, Edges.BUSY_TRAVELLERS - 1)) {
            Edges.leavesBusy("meet(" + traveller + ", 0)", x -> x.meet(traveller, 0), UNKNOWN);
            Edges.leavesBusy("meet(0, " + traveller + ")", x -> x.meet(0, traveller), UNKNOWN);
            Edges.leavesBusy("meet(" + traveller + ", " + traveller + ")", x -> x.meet(traveller, traveller), UNKNOWN);
        }
    }

    static void p18_itChangesNothing() {
        Edges.leavesBusy("meet(0, 3)", x -> x.meet(0, 3), 6);
        Edges.leavesBusy("meet(3, 0)", x -> x.meet(3, 0), 6);
    }

    static void p18_oneMeetsItselfInItsReach() {
        PleatRoads x = on("RF50F50T050T250");
        due("meet(0, 0)", x.meet(0, 0), 3);
        due("meet(1, 1)", x.meet(1, 1), 6);
    }

    static void p18_nowhereIs0() {
        due("meet(0, 1)", on("RF90T010T110").meet(0, 1), 0);
        due("meet(0, 1) at one place", on("RF90T010T010").meet(0, 1), 1);
    }

    static void p18_everywhereIsAllElevenPlaces() {
        due("meet(0, 4)", on(Edges.TEN_INNS + "T010T010T010T010T910").meet(0, 4), 2047);
    }

    static void p18_eachGoesByItself() {
        // Lungs would open it for the plain one; REACH is of it alone.
        due("meet(0, 1)", on("RF90F90T010T193").meet(0, 1), 1);
        due("meet(0, 1)", on("RF90F90T010T293").meet(0, 1), 0);
    }

    // ---- promise 19

    private static void outside(int n, long row) {
        Edges.leavesBusy("judge(" + n + ", " + row + ")", x -> x.judge(n, row), OUTSIDE);
    }

    static void p19_nBeyond1To4IsOutsideAndChangesNothing() {
        for (int n : Edges.beyond(1, 4)) {
            outside(n, 0);
            outside(n, 400);
            outside(n, -1);
        }
    }

    static void p19_rowsBelow0AreOutsideAndChangeNothing() {
        for (int n = 1; n <= 4; n++) {
            outside(n, -1);
            outside(n, -400);
            outside(n, Long.MIN_VALUE);
        }
    }

    static void p19_rowsHave3NFiguresAtMost() {
        long first = 1;
        for (int n = 1; n <= 4; n++) {
            first *= 1000;
            outside(n, first);
            outside(n, Long.MAX_VALUE);
            // Cut to 32 bits it would be 400.
            outside(n, 4294967296L * 4096 + 400);
            long last = first - 1;
            int asked = n;
            Edges.leavesBusy("judge(" + n + ", " + last + ")", x -> x.judge(asked, last), 0);
            Edges.leavesBusy("judge(" + n + ", 0)", x -> x.judge(asked, 0), 0);
        }
    }

    static void p19_figuresThatLackAreZerosAhead() {
        PleatRoads x = on("RF10T010");
        due("judge(1, 101)", x.judge(1, 101), NONE);
        due("judge(2, 101)", x.judge(2, 101), 0);
        due("judge(3, 400101)", x.judge(3, 400101), 0);
        due("judge(2, 400101)", x.judge(2, 400101), 1);
        due("judge(2, 101400)", x.judge(2, 101400), NONE);
    }

    static void p19_thePlaceOfTheFirstThatCanNotBeIs0To3() {
        PleatRoads x = on("RF93T010");
        due("none", x.judge(4, 101100101100L), NONE);
        due("the first", x.judge(4, 100101100101L), 0);
        due("the second", x.judge(4, 101101100101L), 1);
        due("the third", x.judge(4, 101100100101L), 2);
        due("the fourth", x.judge(4, 101100101101L), 3);
        due("of several the first", x.judge(4, 101101101101L), 1);
        due("a row of 3", x.judge(3, 101100100L), 2);
        due("a row of 2", x.judge(2, 101101), 1);
    }

    static void p19_thereAreDoings1To5() {
        PleatRoads x = on("RF93T090");
        for (int doing = 0; doing <= 9; doing++) {
            due("judge(1, " + doing + "00)", x.judge(1, 100 * doing), doing >= 2 && doing <= 5 ? NONE : 0);
            due("judge(1, " + doing + "01)", x.judge(1, 100 * doing + 1), doing == 1 ? NONE : 0);
        }
    }

    static void p19_aStepIsOfATravellerThatThereIsBackOrOn() {
        PleatRoads x = on("RF93F93T110T110T110T110T110");
        for (int traveller = 0; traveller <= 9; traveller++) {
            for (int way = 0; way <= 9; way++) {
                int row = 100 + 10 * traveller + way;
                due("judge(1, " + row + ")", x.judge(1, row), traveller <= 4 && way <= 1 ? NONE : 0);
            }
        }
        PleatRoads y = on("RF93F90T110");
        due("back", y.judge(1, 100), NONE);
        due("on", y.judge(1, 101), 0);
    }

    static void p19_aRestIsOfATravellerThatThereIs() {
        PleatRoads x = on("RT010T010T010T010T010");
        for (int second = 0; second <= 9; second++) {
            for (int traveller = 0; traveller <= 9; traveller++) {
                int row = 200 + 10 * second + traveller;
                due("judge(1, " + row + ")", x.judge(1, row), second == 0 && traveller <= 4 ? NONE : 0);
            }
        }
    }

    static void p19_greaseIsOfAPleatThatIsNotGreased() {
        PleatRoads x = on("RF10F10F10F10F12F10F10F10F10F10");
        for (int second = 0; second <= 9; second++) {
            for (int pleat = 0; pleat <= 9; pleat++) {
                int row = 300 + 10 * second + pleat;
                due("judge(1, " + row + ")", x.judge(1, row), second == 0 && pleat != 4 ? NONE : 0);
            }
        }
        PleatRoads y = on("RF10F10");
        due("the last pleat", y.judge(1, 301), NONE);
        due("the first that there is not", y.judge(1, 302), 0);
        due("twice", y.judge(2, 301301), 1);
    }

    static void p19_frostIsToldWithTwoZerosAndIs5AtMost() {
        PleatRoads x = on("R");
        for (int row = 401; row <= 499; row++) {
            due("judge(1, " + row + ")", x.judge(1, row), 0);
        }
        x.freeze();
        due("4 more", x.judge(4, 400400400400L), NONE);
        x.freeze();
        due("4 more", x.judge(4, 400400400400L), 3);
        x.freeze();
        x.freeze();
        x.freeze();
        due("1 more", x.judge(1, 400), 0);
    }

    static void p19_whereATravellerIsIsSoOrNot() {
        PleatRoads x = on(Edges.TEN_SOFT + "T090T510T910");
        int[] place = {0, 5, 9};
        for (int traveller = 0; traveller <= 9; traveller++) {
            for (int told = 0; told <= 9; told++) {
                int row = 500 + 10 * traveller + told;
                boolean so = traveller < 3 && place[traveller] == told;
                due("judge(1, " + row + ")", x.judge(1, row), so ? NONE : 0);
            }
        }
        x.step(2, true);
        due("at 10 it is at no figure's place", x.judge(1, 529), 0);
        due("at 10 it is at no figure's place", x.judge(1, 520), 0);
        due("at 10 it is at no figure's place", x.judge(1, 521), 0);
    }

    static void p19_doingsAreOneBehindTheOther() {
        PleatRoads x = on("RF50F93T090T153");
        due("there then", x.judge(4, 101501101502L), NONE);
        due("no wind for it", x.judge(2, 101100), 1);
        due("rested", x.judge(3, 101200100), NONE);
        due("through what lungs opened", x.judge(3, 110101501), NONE);
        PleatRoads y = on("RF50T010T153");
        due("opened, and on", y.judge(2, 110101), NONE);
        due("shut by a rest", y.judge(3, 110201101), 2);
        due("not by grease", y.judge(3, 110300101), NONE);
        due("not by frost", y.judge(3, 110400101), NONE);
        PleatRoads z = on("RF50T050T030");
        due("frozen, and on", z.judge(2, 400101), 1);
        due("greased, frozen, and on", z.judge(3, 300400101), NONE);
        due("greased, and on", z.judge(2, 300111), NONE);
    }

    static void p19_itChangesNothing() {
        // Lungs on and on, a rest, grease of the cracked one, frost.
        Edges.leavesBusy("judge(4, 131203301400)", x -> x.judge(4, 131203301400L), NONE);
        Edges.leavesBusy("judge(3, 131131131)", x -> x.judge(3, 131131131), 2);
    }

    public static void main(String[] args) throws ReflectiveOperationException {
        Edges.run(WhereEdgesTest.class, 14, 19);
    }
}
