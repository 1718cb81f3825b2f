/** The edges of promises 28 to 30: slots, and what is counted. */
public final class SlotEdgesTest {
    private static final int UNKNOWN = -1, OUTSIDE = -2, STATE = -3, NONE = -9;

    private static void due(String call, long got, long want) {
        Edges.due(call, got, want);
    }

    private static PleatRoads on(String text) {
        return Edges.on(text);
    }

    // ---- promise 28

    static void p28_slotsBeyond0And1AreUnknownAndChangeNothing() {
        for (int slot : Edges.beyond(0, 1)) {
            Edges.leavesBusy("keep(" + slot + ")", x -> x.keep(slot), UNKNOWN);
        }
    }

    static void p28_bothSlotsKeepEachForItself() {
        PleatRoads x = on("RF10F10T090");
        due("keep(0)", x.keep(0), 0);
        x.step(0, true);
        due("keep(1)", x.keep(1), 1);
        x.step(0, true);
        due("again(0)", x.again(0), 0);
        due("traveller(0, 0)", x.traveller(0, 0), 0);
        due("again(1)", x.again(1), 1);
        due("traveller(0, 0)", x.traveller(0, 0), 1);
        PleatRoads y = on("RF10F10T090");
        y.keep(1);
        y.step(0, true);
        y.keep(0);
        due("again(1)", y.again(1), 0);
        due("traveller(0, 0)", y.traveller(0, 0), 0);
        due("again(0)", y.again(0), 1);
        due("traveller(0, 0)", y.traveller(0, 0), 1);
    }

    static void p28_aSlotIsKeptOver() {
        PleatRoads x = on("RF10T090");
        x.keep(0);
        x.step(0, true);
        due("keep(0)", x.keep(0), 1);
        x.rest(0);
        due("again(0)", x.again(0), 1);
        due("traveller(0, 0)", x.traveller(0, 0), 1);
    }

    static void p28_itChangesNothingButTheSlot() {
        PleatRoads x = Edges.busy();
        due("keep(1)", x.keep(1), 4);
        int[] counts = {8, 4, 4, 4, 1, 5, 4, 7, 19, 6, 2};
        for (int what = 0; what <= 10; what++) {
            due("count(" + what + ")", x.count(what), counts[what]);
        }
        due("seed(77)", x.seed(77), 77);
        due("fault()", x.fault(), NONE);
        due("undo()", x.undo(), 5);
        due("again(0)", x.again(0), 1);
    }

    static void p28_whatIsKeptDoesNotGoOnWithTheRoad() {
        PleatRoads x = on("RF90F90T093");
        x.keep(0);
        x.step(0, true);
        x.grease(1);
        x.freeze();
        x.rest(0);
        due("again(0)", x.again(0), 0);
        Edges.tell(x, "RF90F90T093");
        PleatRoads y = on("RF90F90T093");
        y.keep(0);
        Edges.alike("behind again(0)", x, y);
    }

    static void p28_itKeepsWithoutARoadToo() {
        PleatRoads x = new PleatRoads();
        due("keep(0)", x.keep(0), 0);
        x.freeze();
        due("again(0)", x.again(0), 0);
        due("count(4)", x.count(4), 0);
        due("again(1)", x.again(1), STATE);
    }

    // ---- promise 29

    static void p29_slotsBeyond0And1AreUnknownAndChangeNothing() {
        for (int slot : Edges.beyond(0, 1)) {
            Edges.leavesBusy("again(" + slot + ")", x -> x.again(slot), UNKNOWN);
            Edges.leavesAll("again(" + slot + ")", () -> on("RF10T010"), x -> x.again(slot), UNKNOWN);
        }
    }

    private static PleatRoads actsWithoutSlots(int kept) {
        PleatRoads x = on("RF50F52T093T190");
        x.freeze();
        if (kept >= 0) {
            x.keep(kept);
        }
        x.grease(0);
        x.step(0, true);
        return x;
    }

    static void p29_whereNoneWereKeptItIsRefusedAndChangesNothing() {
        Edges.leavesAll("again(0)", () -> actsWithoutSlots(-1), x -> x.again(0), STATE);
        Edges.leavesAll("again(1)", () -> actsWithoutSlots(-1), x -> x.again(1), STATE);
        Edges.leavesAll("again(0), the other one is kept", () -> actsWithoutSlots(1), x -> x.again(0), STATE);
        Edges.leavesAll("again(1), the other one is kept", () -> actsWithoutSlots(0), x -> x.again(1), STATE);
    }

    static void p29_allIsAsItWasKept() {
        PleatRoads x = Edges.busy();
        int[] kept = new int[9];
        x.keep(0);
        for (int what = 1; what <= 8; what++) {
            kept[what] = x.count(what);
        }
        x.thaw();
        x.grease(1);
        x.step(3, true);
        x.rest(0);
        x.step(0, true);
        due("again(0)", x.again(0), 4);
        for (int what = 1; what <= 8; what++) {
            due("count(" + what + ")", x.count(what), kept[what]);
        }
        due("count(6)", x.count(6), 4);
        due("count(4)", x.count(4), 1);
        int[] place = {1, 0, 2, 2};
        int[] wind = {4, 4, 8, 3};
        for (int t = 0; t < 4; t++) {
            due("traveller(" + t + ", 0)", x.traveller(t, 0), place[t]);
            due("traveller(" + t + ", 3)", x.traveller(t, 3), wind[t]);
        }
    }

    static void p29_theRowOfActsIsEmptyThen() {
        PleatRoads x = Edges.busy();
        due("again(1)", x.again(1), 3);
        due("count(9)", x.count(9), 0);
        due("undo()", x.undo(), STATE);
        for (int i = 1; i <= 15; i++) {
            x.rest(0);
            due("count(9)", x.count(9), Math.min(14, i));
        }
    }

    static void p29_oneGoesOnFromASlotMoreThanOnce() {
        PleatRoads x = on("RF10F10T090");
        x.keep(1);
        for (int i = 0; i < 3; i++) {
            x.step(0, true);
            x.freeze();
            due("again(1)", x.again(1), 0);
            due("traveller(0, 0)", x.traveller(0, 0), 0);
            due("count(4)", x.count(4), 0);
        }
    }

    static void p29_theTextHeardAndTheSeedStay() {
        PleatRoads x = Edges.busy();
        x.write('F');
        x.hear(0, 1);
        x.seed(8);
        due("again(0)", x.again(0), 1);
        due("count(0)", x.count(0), 9);
        due("count(10)", x.count(10), 3);
        due("seed(0)", x.seed(0), 8);
        due("again(1)", x.again(1), 3);
    }

    static void p29_aNewRoadForgetsWhatWasKept() {
        PleatRoads x = Edges.busy();
        due("road()", x.road(), 11);
        due("again(0)", x.again(0), STATE);
        due("again(1)", x.again(1), STATE);
    }

    // ---- promise 30

    static void p30_whatBeyond0To10IsOutsideAndChangesNothing() {
        for (int what : Edges.beyond(0, 10)) {
            Edges.leavesBusy("count(" + what + ")", x -> x.count(what), OUTSIDE);
            due("count(" + what + ") at first", new PleatRoads().count(what), OUTSIDE);
        }
    }

    static void p30_allElevenAreAsTold() {
        int[] all = {8, 4, 4, 4, 1, 5, 4, 7, 19, 6, 2};
        for (int what = 0; what <= 10; what++) {
            int asked = what;
            Edges.leavesBusy("count(" + what + ")", x -> x.count(asked), all[what]);
        }
    }

    static void p30_whatIsEmptyIs0() {
        for (int what = 0; what <= 10; what++) {
            due("count(" + what + ")", new PleatRoads().count(what), 0);
        }
        PleatRoads x = on("RF10");
        due("count(7) without travellers", x.count(7), 0);
        due("count(8) without travellers", x.count(8), 0);
    }

    static void p30_whatIsFullIsCountedToItsEnd() {
        PleatRoads x = on(Edges.TEN_SOFT + "T993T090T090T090T090");
        x.write('F');
        for (int i = 0; i < 5; i++) {
            x.freeze();
        }
        for (int k = 0; k < 10; k++) {
            x.grease(k);
        }
        x.rest(1);
        x.step(0, true);
        for (int i = 0; i < 6; i++) {
            x.hear(10, 0);
        }
        // Lungs paid 4 for 1 and 5 less 2.
        int[] all = {52, 10, 5, 2, 5, 1023, 512, 1024 + 1, 4 * 9 + 5, 14, 6};
        for (int what = 0; what <= 10; what++) {
            due("count(" + what + ")", x.count(what), all[what]);
        }
    }

    static void p30_placesAreBitsOnceThoughSeveralAreThere() {
        PleatRoads x = on("RF10F10T010T010T110T110T110");
        due("count(7)", x.count(7), 3);
        x.step(2, true);
        due("count(7)", x.count(7), 7);
    }

    static void p30_windOfAllIsToldTogether() {
        PleatRoads x = on("RT090T090T090T090T090");
        due("count(8)", x.count(8), 45);
        PleatRoads y = on("RF50T050T010");
        y.step(0, true);
        due("count(8)", y.count(8), 1);
    }

    static void p30_theStepIsOfStepsAndRestsAlone() {
        PleatRoads x = on("RF10T090");
        x.grease(0);
        x.freeze();
        x.thaw();
        due("count(3)", x.count(3), 0);
        x.step(0, true);
        x.rest(0);
        due("count(3)", x.count(3), 2);
        x.undo();
        due("count(3)", x.count(3), 1);
        due("count(9)", x.count(9), 4);
    }

    public static void main(String[] args) throws ReflectiveOperationException {
        Edges.run(SlotEdgesTest.class, 28, 30);
    }
}
