/** Each promise of the document by itself, with answers worked out by hand. */
public final class PromiseTest {
    private static int wrong = 0;
    private static int promise = 0;

    private static final int UNKNOWN = -1, OUTSIDE = -2, STATE = -3, FULL = -4, NONE = -9;

    private static void due(String call, long got, long want) {
        if (got != want) {
            wrong++;
            System.out.println("promise " + promise + ": " + call + " answered " + got + ", due is " + want);
        }
    }

    private static void tell(PleatRoads x, String text) {
        x.wipe();
        for (int i = 0; i < text.length(); i++) {
            due("write " + text + " " + i, x.write(text.charAt(i)), i + 1);
        }
    }

    private static PleatRoads on(String text) {
        PleatRoads x = new PleatRoads();
        tell(x, text);
        if (x.road() < 0) {
            due("road " + text, x.road(), 0);
        }
        return x;
    }

    private static void faultOf(String text, int want) {
        PleatRoads x = new PleatRoads();
        tell(x, text);
        due("fault of " + text, x.fault(), want);
        due("road of " + text + " is refused", x.road() == STATE ? 1 : 0, want == NONE ? 0 : 1);
    }

    private static void aNewObject() {
        PleatRoads x = new PleatRoads();
        for (int what = 0; what <= 10; what++) {
            due("count(" + what + ")", x.count(what), 0);
        }
        due("undo", x.undo(), STATE);
        due("thaw", x.thaw(), STATE);
        due("again", x.again(0), STATE);
        due("again", x.again(1), STATE);
        due("seed", x.seed(5), 0);
        due("fault", x.fault(), 0);
        due("shutIn", x.shutIn(), 0);
        due("summers", x.summers(30), 0);
    }

    private static void write() {
        PleatRoads x = new PleatRoads();
        due("write(-1)", x.write(-1), OUTSIDE);
        due("write(256)", x.write(256), OUTSIDE);
        due("write(0)", x.write(0), 1);
        due("write(255)", x.write(255), 2);
        for (int i = 3; i <= 52; i++) {
            due("write", x.write('F'), i);
        }
        due("the 53rd", x.write('F'), FULL);
        due("outside goes first", x.write(256), OUTSIDE);
        due("outside goes first", x.write(Integer.MIN_VALUE), OUTSIDE);
        due("count(0)", x.count(0), 52);
    }

    private static void wipe() {
        PleatRoads x = on("RF10T010");
        due("wipe", x.wipe(), 8);
        due("wipe", x.wipe(), 0);
        due("the road stays", x.count(1), 1);
        due("the text is gone", x.fault(), 0);
        due("write", x.write('R'), 1);
    }

    private static void fault() {
        faultOf("", 0);
        faultOf("R", NONE);
        faultOf("r", 0);
        faultOf("F10", 0);
        faultOf("RR", 1);
        faultOf("Rf", 1);
        faultOf("RF", 2);
        faultOf("RF1", 3);
        faultOf("RF10", NONE);
        faultOf("RF93", NONE);
        faultOf("RF00", 2);
        faultOf("RF:0", 2);
        faultOf("RF14", 3);
        faultOf("RF1/", 3);
        faultOf("RT", 2);
        faultOf("RT0", 3);
        faultOf("RT01", 4);
        faultOf("RT010", NONE);
        faultOf("RT093", NONE);
        faultOf("RT000", 3);
        faultOf("RT014", 4);
        faultOf("RT110", 2);
        faultOf("RF10T110", NONE);
        faultOf("RT010F10T110", NONE);
        faultOf("RT110F10", 2);
        faultOf("RF10T210", 5);
        faultOf("RF10T010X", 8);
        String ten = "RF10F10F10F10F10F10F10F10F10F10";
        faultOf(ten, NONE);
        faultOf(ten + "F", 31);
        faultOf(ten + "T910", NONE);
        faultOf(ten + "T:10", 32);
        faultOf("RF10F10F10F10F10F10F10F10T910", 26);
        String five = "T010T010T010T010T010";
        faultOf("R" + five, NONE);
        faultOf("R" + five + "T", 21);
        faultOf("R" + five + "F10", NONE);
        faultOf(ten + five, NONE);
        faultOf(ten + five + "R", 51);
    }

    private static void road() {
        PleatRoads x = new PleatRoads();
        due("nothing told", x.road(), STATE);
        tell(x, "R");
        due("R", x.road(), 0);
        tell(x, "RF10F10F10F10F10F10F10F10F10F10T010T010T010T010T010");
        due("all", x.road(), 105);
        tell(x, "RF32F93T153");
        due("road", x.road(), 21);
        due("greased", x.count(5), 1);
        due("hear", x.hear(1, 1), 1);
        x.seed(7);
        x.keep(0);
        x.step(0, true);
        x.grease(1);
        x.freeze();
        due("acts", x.count(9), 3);
        tell(x, "RF");
        due("refused", x.road(), STATE);
        due("nothing changed", x.count(9), 3);
        due("nothing changed", x.count(1), 2);
        tell(x, "RF32F93T153");
        due("road", x.road(), 21);
        due("place", x.traveller(0, 0), 1);
        due("wind", x.traveller(0, 3), 5);
        due("step", x.count(3), 0);
        due("frost", x.count(4), 0);
        due("greased", x.count(5), 1);
        due("open", x.count(6), 0);
        due("acts", x.count(9), 0);
        due("heard stays", x.count(10), 1);
        due("kept is gone", x.again(0), STATE);
        due("the seed stays", x.seed(0), 7);
    }

    private static void pleat() {
        PleatRoads x = on("RF30F51F62F93F10F11F12T090T493");
        due("before", x.pleat(-1, 0), UNKNOWN);
        due("behind", x.pleat(7, 0), UNKNOWN);
        due("unknown goes first", x.pleat(7, 9), UNKNOWN);
        due("what", x.pleat(0, -1), OUTSIDE);
        due("what", x.pleat(0, 5), OUTSIDE);
        int[] stiff = {3, 5, 6, 9, 1, 1, 1};
        int[] kind = {0, 1, 2, 3, 0, 1, 2};
        int[] cost = {3, 2, 4, 1, 1, 1, 1};
        int[] frozen = {6, 4, 7, 1, 4, 2, 2};
        int[] greased = {4, 2, 7, 1, 2, 1, 2};
        for (int k = 0; k < 7; k++) {
            due("stiffness", x.pleat(k, 0), stiff[k]);
            due("kind", x.pleat(k, 1), kind[k]);
            due("cost", x.pleat(k, 2), cost[k]);
            due("greased", x.pleat(k, 3), kind[k] == 2 ? 1 : 0);
            due("open", x.pleat(k, 4), 0);
        }
        x.freeze();
        x.freeze();
        x.freeze();
        for (int k = 0; k < 7; k++) {
            due("cost in frost", x.pleat(k, 2), frozen[k]);
            x.grease(k);
            due("cost greased", x.pleat(k, 2), greased[k]);
        }
        due("step", x.step(1, false), 3);
        due("open inn", x.pleat(3, 2), 0);
        due("open inn", x.pleat(3, 4), 1);
        due("others shut", x.pleat(4, 4), 0);
    }

    private static void traveller() {
        PleatRoads x = on("RF50F32T090T171T282T163");
        due("before", x.traveller(-1, 0), UNKNOWN);
        due("behind", x.traveller(4, 0), UNKNOWN);
        due("unknown goes first", x.traveller(4, 7), UNKNOWN);
        due("what", x.traveller(0, -1), OUTSIDE);
        due("what", x.traveller(0, 6), OUTSIDE);
        int[][] all = {{0, 9, 0, 9, NONE, 5}, {1, 7, 1, 7, 2, 0}, {2, 8, 2, 8, 2, NONE}, {1, 6, 3, 6, 5, 1}};
        for (int t = 0; t < 4; t++) {
            for (int what = 0; what < 6; what++) {
                due("traveller " + t + " " + what, x.traveller(t, what), all[t][what]);
            }
        }
        due("lungs back", x.step(3, false), 0);
        due("wind", x.traveller(3, 3), 1);
        due("open for a plain one", x.traveller(0, 5), 0);
        due("open for a stout one", x.traveller(1, 4), 0);
        due("an asthmatic back", x.step(2, false), 1);
        due("shut then", x.traveller(0, 5), 5);
        due("5 for 1", x.step(3, true), STATE);
        x.rest(3);
        x.rest(3);
        due("lungs on", x.step(3, true), 1);
        due("open for an asthmatic", x.traveller(2, 4), 1);
    }

    private static void step() {
        PleatRoads x = on("RF50F93F40T060T011T092T193");
        due("unknown", x.step(-1, true), UNKNOWN);
        due("unknown", x.step(4, true), UNKNOWN);
        due("no pleat", x.step(0, false), STATE);
        due("too dear: half of 5 by 1", x.step(1, true), STATE);
        due("nothing changed", x.count(3) + x.count(9), 0);
        due("plain", x.step(0, true), 1);
        due("wind", x.traveller(0, 3), 1);
        due("inn", x.step(0, true), 2);
        due("breath again", x.traveller(0, 3), 6);
        due("on", x.step(0, true), 3);
        due("at the end", x.step(0, true), STATE);
        due("too dear", x.step(0, false), STATE);
        due("steps", x.count(3), 3);
        due("asthmatic", x.step(2, true), 1);
        due("wind", x.traveller(2, 3), 3);
        due("asthmatic pays 2", x.step(2, true), 2);
        due("breath", x.traveller(2, 3), 9);
        due("lungs over the inn", x.step(3, true), 2);
        due("open", x.count(6), 2);
        due("lungs on", x.step(3, true), 3);
        due("open is the last one", x.count(6), 4);
        due("plain back over what is open", x.step(0, false), 2);
        due("for nothing", x.traveller(0, 3), 2);
        due("shut", x.count(6), 0);
        due("steps", x.count(3), 8);
        PleatRoads y = on("RF50T050");
        due("just enough", y.step(0, true), 1);
        due("wind", y.traveller(0, 3), 0);
        PleatRoads z = on("RF93T012");
        due("an asthmatic of breath 1 at an inn", z.step(0, true), STATE);
        PleatRoads w = on("RF93F10T011");
        due("a stout one at an inn", w.step(0, true), 1);
        due("half of 1", w.step(0, true), 2);
        due("wind", w.traveller(0, 3), 1);
    }

    private static void rest() {
        PleatRoads x = on("RF90F10T090T013T151");
        due("unknown", x.rest(-1), UNKNOWN);
        due("unknown", x.rest(3), UNKNOWN);
        due("full", x.rest(0), 9);
        due("an act", x.count(9), 1);
        due("the step", x.count(3), 1);
        x.step(0, true);
        due("half of 9", x.rest(0), 4);
        due("half of 9", x.rest(0), 8);
        due("at most", x.rest(0), 9);
        PleatRoads y = on("RF10F90T013");
        y.step(0, true);
        due("open", y.count(6), 1);
        due("half of 1, 1 at least", y.rest(0), 1);
        due("shut", y.count(6), 0);
    }

    private static void grease() {
        PleatRoads x = on("RF90F91F92F93F10F30T193");
        due("unknown", x.grease(-1), UNKNOWN);
        due("unknown", x.grease(6), UNKNOWN);
        due("plain", x.grease(0), 7);
        due("twice", x.grease(0), STATE);
        due("cracked", x.grease(1), 2);
        due("smooth", x.grease(2), STATE);
        due("inn", x.grease(3), 1);
        due("1 at least", x.grease(4), 1);
        due("1 at least", x.grease(5), 1);
        due("bits", x.count(5), 63);
        due("acts", x.count(9), 5);
        due("the step", x.count(3), 0);
        PleatRoads y = on("RF90T093");
        y.step(0, true);
        due("what is open costs nothing", y.grease(0), 0);
        due("it stays open", y.count(6), 1);
    }

    private static void freeze() {
        PleatRoads x = on("RF93T093");
        x.step(0, true);
        for (int frost = 1; frost <= 5; frost++) {
            due("freeze", x.freeze(), frost);
        }
        due("6", x.freeze(), STATE);
        due("acts", x.count(9), 6);
        due("it stays open", x.count(6), 1);
        due("the step", x.count(3), 1);
    }

    private static void thaw() {
        PleatRoads x = on("RF93T093");
        due("none", x.thaw(), STATE);
        x.freeze();
        x.freeze();
        x.freeze();
        x.step(0, true);
        due("thaw", x.thaw(), 3);
        due("frost", x.count(4), 0);
        due("again", x.thaw(), STATE);
        due("acts", x.count(9), 5);
        due("it stays open", x.count(6), 1);
    }

    private static void undo() {
        PleatRoads x = on("RF50F93T093");
        due("none", x.undo(), STATE);
        x.step(0, true);
        x.rest(0);
        x.grease(0);
        x.freeze();
        x.freeze();
        x.thaw();
        due("thaw undone", x.undo(), 5);
        due("frost", x.count(4), 2);
        due("frost undone", x.undo(), 4);
        due("frost", x.count(4), 1);
        due("frost undone", x.undo(), 3);
        due("grease undone", x.undo(), 2);
        due("greased", x.count(5), 0);
        due("rest undone", x.undo(), 1);
        due("wind", x.traveller(0, 3), 4);
        due("open again", x.count(6), 1);
        due("the step", x.count(3), 1);
        due("step undone", x.undo(), 0);
        due("place", x.traveller(0, 0), 0);
        due("wind", x.traveller(0, 3), 9);
        due("shut", x.count(6), 0);
        due("the step", x.count(3), 0);
        due("none", x.undo(), STATE);
        for (int i = 0; i < 20; i++) {
            x.rest(0);
        }
        for (int left = 13; left >= 0; left--) {
            due("undo", x.undo(), left);
        }
        due("forgotten", x.undo(), STATE);
        due("the step", x.count(3), 6);
        x.rest(0);
        due("the row goes on", x.undo(), 0);
    }

    private static void reach() {
        PleatRoads x = on("RF50F32F93F90T090T191T292T453T310");
        due("unknown", x.reach(-1), UNKNOWN);
        due("unknown", x.reach(5), UNKNOWN);
        // 5, then 1, then the inn for 1: with 9 again over the 9.
        due("plain", x.reach(0), 31);
        due("stout", x.reach(1), 31);
        // An asthmatic pays 2 to the inn, then 10 are too many; back 2 then 6 of 9.
        due("asthmatic", x.reach(2), 15);
        due("lungs, too short", x.reach(3), 16);
        // With wind 1 from place 3 over the inn, back over the smooth one for 1.
        due("inn back", x.reach(4), 14);
        due("nothing changed", x.count(3) + x.count(9) + x.count(6), 0);
        PleatRoads y = on("RF40F40T143");
        due("lungs come back through what they opened", y.reach(0), 7);
        y = on("RF40F40T140");
        due("a plain one goes one way", y.reach(0), 7);
        y = on("RF40F93T140T193");
        y.step(1, false);
        y.freeze();
        // Pleat 0 is open; a plain one goes back for nothing, and then can not come back for 5.
        due("open on the first step alone", y.reach(0), 7);
        due("lungs behind it", y.reach(1), 7);
        due("none", on("R" + "T010").reach(0), 1);
        String ten = "RF93F93F93F93F93F93F93F93F93F93";
        due("the whole road", on(ten + "T010").reach(0), 2047);
    }

    private static void fewest() {
        PleatRoads x = on("RF50F50F93T090T041T052T063");
        due("unknown", x.fewest(-1, 0), UNKNOWN);
        due("unknown", x.fewest(4, 0), UNKNOWN);
        due("unknown", x.fewest(0, -1), UNKNOWN);
        due("unknown", x.fewest(0, 4), UNKNOWN);
        due("there", x.fewest(0, 0), 0);
        due("one", x.fewest(0, 1), 1);
        // 9 less 5 is 4, rested 8, less 5.
        due("with a rest", x.fewest(0, 2), 3);
        due("with the inn", x.fewest(0, 3), 4);
        // Pays 2, 2, and 0 at the inn.
        due("stout", x.fewest(1, 3), 3);
        due("asthmatic of 5 for 6", x.fewest(2, 1), NONE);
        // Lungs of 6: 1 left, rested 4, 6, then step, then 1 for the inn.
        due("lungs", x.fewest(3, 3), 5);
        String ten = "RF90F90F90F90F90F90F90F90F90F90";
        PleatRoads y = on(ten + "T090T180");
        // Each pleat but the first wants 3 rests and a step.
        due("eight", y.fewest(0, 8), 29);
        due("33 are too many", y.fewest(0, 9), NONE);
        due("too short", y.fewest(1, 2), NONE);
        y.step(0, true);
        // 3 rests, a step: 4 each; 7 of them are 28.
        due("seven on", y.fewest(0, 8), 28);
        due("32", y.fewest(0, 9), NONE);
        PleatRoads z = on(ten + "T090");
        z.step(0, true);
        z.rest(0);
        // 2 rests and a step, then 6 times 4 and one more: 3 + 24 = 27, 31 is beyond.
        due("27", z.fewest(0, 8), 27);
        due("31", z.fewest(0, 9), NONE);
        z.rest(0);
        due("30", z.fewest(0, 9), 30);
        PleatRoads w = on("RF90F90T193");
        w.step(0, true);
        due("back through what is open", w.fewest(0, 1), 1);
        due("then as dear as ever", w.fewest(0, 0), 5);
    }

    private static void wants() {
        PleatRoads x = on("RF50F50F52F93F90T090T061T050T190");
        due("unknown", x.wants(-1, 0), UNKNOWN);
        due("unknown", x.wants(4, 0), UNKNOWN);
        due("unknown", x.wants(0, -1), UNKNOWN);
        due("unknown", x.wants(0, 6), UNKNOWN);
        due("there", x.wants(0, 0), 0);
        due("in reach", x.wants(0, 1), 0);
        due("of like ones the least", x.wants(0, 2), 1);
        due("two", x.wants(0, 3), 3);
        due("both and the inn: 3, 3, 3, and 1", x.wants(0, 4), NONE);
        due("stout: 2, 2, 1", x.wants(1, 3), 0);
        due("stout, 9 behind the inn", x.wants(1, 5), 0);
        due("of breath 5", x.wants(2, 2), NONE);
        // From 1: 5, 3, 1, then 9 for 9.
        due("from the middle", x.wants(3, 5), 0);
        x.freeze();
        due("frost: 6, 4, and 10 less 2", x.wants(3, 5), 18);
        due("nothing changed", x.count(5), 4);
        x.grease(1);
        due("what is greased is not told", x.wants(3, 5), 16);
        due("1 to 3 wants none", x.wants(3, 3), 0);
    }

    private static void shutIn() {
        PleatRoads x = on("RF50F93T040T050T041T240T032");
        due("shutIn", x.shutIn(), 17);
        x.grease(0);
        due("greased", x.shutIn(), 16);
        x.freeze();
        x.freeze();
        due("frozen", x.shutIn(), 17);
        due("a road without pleats", on("RT010T093").shutIn(), 3);
        due("nobody", on("RF10").shutIn(), 0);
    }

    private static void meet() {
        PleatRoads x = on("RF50F50T050T250T240");
        due("unknown", x.meet(-1, 0), UNKNOWN);
        due("unknown", x.meet(0, 3), UNKNOWN);
        due("unknown", x.meet(3, 0), UNKNOWN);
        due("in the middle", x.meet(0, 1), 2);
        due("the same", x.meet(1, 0), 2);
        due("nowhere", x.meet(0, 2), 0);
        due("with itself", x.meet(0, 0), 3);
        due("at 2", x.meet(1, 2), 4);
    }

    private static void judge() {
        PleatRoads x = on("RF50F93T090T153");
        due("n", x.judge(0, 0), OUTSIDE);
        due("n", x.judge(5, 0), OUTSIDE);
        due("n", x.judge(-1, 0), OUTSIDE);
        due("n", x.judge(Integer.MIN_VALUE, 0), OUTSIDE);
        due("row", x.judge(1, -1), OUTSIDE);
        due("row", x.judge(1, 1000), OUTSIDE);
        due("row", x.judge(2, 1000000), OUTSIDE);
        due("row", x.judge(4, 1000000000000L), OUTSIDE);
        due("row", x.judge(4, Long.MAX_VALUE), OUTSIDE);
        due("row", x.judge(4, Long.MIN_VALUE), OUTSIDE);
        due("no doing", x.judge(1, 0), 0);
        due("no doing", x.judge(1, 999), 0);
        due("figures are from the right", x.judge(2, 400), 0);
        due("on", x.judge(1, 101), NONE);
        due("back", x.judge(1, 100), 0);
        due("neither", x.judge(1, 102), 0);
        due("who", x.judge(1, 121), 0);
        due("rest", x.judge(1, 201), NONE);
        due("rest", x.judge(1, 202), 0);
        due("rest", x.judge(1, 210), 0);
        due("grease", x.judge(2, 300301), NONE);
        due("grease", x.judge(2, 300300), 1);
        due("grease", x.judge(1, 302), 0);
        due("grease", x.judge(1, 310), 0);
        due("freeze", x.judge(4, 400400400400L), NONE);
        due("freeze", x.judge(1, 401), 0);
        due("freeze", x.judge(1, 410), 0);
        due("place", x.judge(4, 500101501111L), NONE);
        due("place", x.judge(3, 511111512L), NONE);
        due("place", x.judge(3, 511111511L), 2);
        due("place", x.judge(1, 520), 0);
        due("one behind the other", x.judge(3, 101101502), NONE);
        // Lungs open the first pleat for the other one; a rest shuts it.
        due("back, and on for nothing", x.judge(4, 110400101501L), NONE);
        x.step(0, true);
        due("4 are left, 5 wanted", x.judge(1, 100), 0);
        due("rested", x.judge(2, 200100), NONE);
        due("opened", x.judge(2, 110100), NONE);
        due("shut by a rest", x.judge(3, 110201100), 2);
        due("nothing changed", x.count(9), 1);
        due("nothing changed", x.count(4), 0);
        x.freeze();
        x.freeze();
        due("frost at most", x.judge(4, 400400400400L), 3);
    }

    private static void hear() {
        PleatRoads x = new PleatRoads();
        due("place", x.hear(-1, 0), OUTSIDE);
        due("place", x.hear(11, 0), OUTSIDE);
        due("came", x.hear(0, -1), OUTSIDE);
        due("came", x.hear(0, 2), OUTSIDE);
        due("hear", x.hear(0, 1), 1);
        due("hear", x.hear(10, 0), 2);
        for (int n = 3; n <= 6; n++) {
            due("hear", x.hear(5, 0), n);
        }
        due("full", x.hear(5, 0), FULL);
        due("outside goes first", x.hear(11, 0), OUTSIDE);
        due("count", x.count(10), 6);
    }

    private static void unhear() {
        PleatRoads x = new PleatRoads();
        due("none", x.unhear(), 0);
        x.hear(0, 0);
        x.hear(1, 0);
        due("who", x.who(0), 0);
        due("unhear", x.unhear(), 2);
        due("count", x.count(10), 0);
        due("who", x.who(0), 36);
        due("hear", x.hear(1, 1), 1);
    }

    private static void who() {
        PleatRoads x = on("RF50F62F93F91T090");
        due("what", x.who(-1), OUTSIDE);
        due("what", x.who(2), OUTSIDE);
        due("all", x.who(0), 36);
        due("the first", x.who(1), 1);
        x.hear(1, 1);
        // Plain 5 to 9, stout 2 to 9, asthmatic 6 to 9, lungs 5 to 9.
        due("who", x.who(0), 22);
        due("first", x.who(1), 5);
        x.hear(1, 0);
        due("nobody", x.who(0), 0);
        due("nobody", x.who(1), NONE);
        x.unhear();
        x.hear(2, 1);
        // 5 and 4: plain 9, lungs 9; stout 2 and 2: 4 to 9; asthmatic 6 and 5: none.
        due("who", x.who(0), 8);
        x.hear(3, 1);
        // The inn costs 1 more: stout 4 to 9 (0).
        due("who", x.who(0), 6);
        due("first", x.who(1), 14);
        x.hear(4, 0);
        due("the cracked one costs 4, a stout one 2", x.who(0), 0);
        x.unhear();
        x.hear(5, 1);
        due("beyond the road", x.who(0), 0);
        x.unhear();
        x.hear(5, 0);
        due("beyond the road", x.who(0), 36);
        x.hear(1, 0);
        due("not to 1", x.who(0), 14);
        due("first", x.who(1), 1);
        x.unhear();
        x.hear(2, 1);
        x.freeze();
        x.grease(0);
        x.step(0, true);
        due("frost, grease set aside", x.who(0), 8);
        due("first", x.who(1), 9);
        PleatRoads y = on("RF60F93F60T010");
        y.hear(3, 1);
        // 6 and 1 at the inn, breath again: plain 7 to 9, stout 3 to 9, asthmatic 9 (7 and 2), lungs 7 to 9.
        due("by the inn", y.who(0), 14);
        PleatRoads z = on("RF50T093");
        z.hear(1, 1);
        z.step(0, true);
        due("open set aside", z.who(0), 22);
        z.hear(0, 0);
        due("all come to 0", z.who(0), 0);
    }

    private static void share() {
        PleatRoads x = on("RF50F50T050T250T240T190");
        due("unknown", x.share(-1, true), UNKNOWN);
        due("unknown", x.share(4, false), UNKNOWN);
        // Reaches: {0, 1}, {1, 2}, {2}, {0, 1, 2}.
        due("1/2 and 1/3", x.share(0, true), 5);
        due("1/2 and 1/3", x.share(0, false), 6);
        due("1/3 and 1/3", x.share(1, true), 2);
        due("1/3 and 1/3", x.share(1, false), 3);
        due("1/3", x.share(2, true), 1);
        due("1/3", x.share(2, false), 3);
        due("1/2, 1/3, 1/3", x.share(3, true), 7);
        due("1/2, 1/3, 1/3", x.share(3, false), 6);
        PleatRoads y = on("RF10F10T020");
        due("alone", y.share(0, true), 3);
        due("alone", y.share(0, false), 1);
        PleatRoads z = on("RT010T010T010T010T010");
        due("five", z.share(4, true), 1);
        due("five", z.share(4, false), 5);
    }

    private static void rests() {
        PleatRoads x = on("RF90F90T010T110");
        due("unknown", x.rests(-1, 0, 0), UNKNOWN);
        due("unknown", x.rests(0, 2, 0), UNKNOWN);
        due("unknown", x.rests(2, 2, 0), UNKNOWN);
        due("one", x.rests(1, 1, 0), OUTSIDE);
        due("what", x.rests(0, 1, 2), OUTSIDE);
        due("what", x.rests(0, 1, -1), OUTSIDE);
        due("unknown goes first", x.rests(0, 2, 2), UNKNOWN);
        // Neither can step: all pairs are alike.
        due("all", x.rests(0, 1, 0), 9);
        due("first", x.rests(0, 1, 1), 0);
        // One stands at 0 whatever it chooses, with wind 1 for 9; the other at 2 comes to 1 for 5 of 5,
        // or stands: it has 3 with the step, 2 without.
        x = on("RF90F50T010T250");
        due("back is best", x.rests(0, 1, 0), 3);
        due("first", x.rests(0, 1, 1), 0);
        due("the other first", x.rests(1, 0, 0), 3);
        due("first", x.rests(1, 0, 1), 0);
        // Two at one place of one pleat, wind 1: who steps has 3 if the other one stands.
        x = on("RF10T010T010");
        // Both on: at one place, 1 each; one on: 3 and 2; none: 0 each. The other one by standing has 2.
        due("one of them", x.rests(0, 1, 0), 4);
        due("first", x.rests(0, 1, 1), 1);
        // Two ahead of an inn: who is alone on one side comes over again, and has 4 more.
        x = on("RF13T010T010");
        due("in reach of both", x.rests(0, 1, 0), 4);
        // Lungs on lets the plain one come for nothing: it has 1 there, 2 and 4 when it stands.
        x = on("RF90T093T010");
        due("lungs", x.rests(0, 1, 0), 2);
        due("lungs on, the other back or stands", x.rests(0, 1, 1), 10);
        due("nothing changed", x.count(3) + x.count(6), 0);
        // The other one, come to 2, gets its breath at the inn and reaches 1; it goes after the one, and the one goes.
        x = on("RF32F62F13T163T050T153");
        x.step(0, true);
        x.freeze();
        x.step(1, true);
        x.step(2, true);
        due("no pair holds", x.rests(0, 1, 0), 0);
        due("no pair holds", x.rests(0, 1, 1), NONE);
    }

    private static void icy() {
        PleatRoads x = on("RF50F50F93T050T160T191T253");
        due("unknown", x.icy(-1, 0, 0, true), UNKNOWN);
        due("unknown", x.icy(4, 0, 0, true), UNKNOWN);
        due("unknown", x.icy(0, -1, 0, true), UNKNOWN);
        due("unknown", x.icy(0, 4, 0, false), UNKNOWN);
        due("unknown goes first", x.icy(0, 4, 11, false), UNKNOWN);
        due("x", x.icy(0, 0, -1, true), OUTSIDE);
        due("x", x.icy(0, 0, 11, false), OUTSIDE);
        due("there", x.icy(0, 0, 10, true), 1);
        due("there", x.icy(0, 0, 10, false), 1);
        due("0 tenths", x.icy(0, 1, 0, true), 1);
        due("10 tenths", x.icy(0, 1, 10, true), 0);
        due("10 tenths", x.icy(0, 1, 10, false), 1);
        due("3 tenths", x.icy(0, 1, 3, true), 7);
        due("3 tenths", x.icy(0, 1, 3, false), 10);
        due("5 tenths", x.icy(0, 1, 5, true), 1);
        due("5 tenths", x.icy(0, 1, 5, false), 2);
        due("6 for 6", x.icy(1, 0, 3, true), 1);
        due("never", x.icy(0, 3, 3, true), 0);
        due("never", x.icy(0, 3, 3, false), 1);
        // 6 for the second and 1 at the inn, which takes no ice: 5 and 1 is 6, 6 and 1 is 7.
        due("by the inn", x.icy(1, 3, 4, true), 3);
        due("by the inn", x.icy(1, 3, 4, false), 5);
        due("nothing changed", x.count(4), 0);
        // Lungs behind: an open one costs 1 of the 0 that are left.
        PleatRoads y = on("RF50F50T053");
        y.step(0, true);
        due("open or not", y.icy(0, 0, 2, true), 4);
        due("open or not", y.icy(0, 0, 2, false), 5);
        // Only the first 8 take ice: of breath 1 it stands ahead of the ninth.
        String ten = "RF10F10F10F10F10F10F10F10F10F10";
        PleatRoads z = on(ten + "T810T810");
        due("the ninth", z.icy(0, 9, 10, true), 1);
        due("the eighth back", z.icy(0, 7, 10, true), 0);
        PleatRoads w = on("RF93F93F10F10F10F10F10F10F10T810");
        due("inns are of the first 8", w.icy(0, 9, 10, true), 1);
        due("the pleat 7", w.icy(0, 7, 1, true), 9);
        PleatRoads v = on("RF10F10F10F10F10F10F10F10T080");
        due("all eight", v.icy(0, 8, 1, true), 43046721);
        due("all eight", v.icy(0, 8, 1, false), 100000000);
        PleatRoads u = on("RF93F10T010");
        due("an inn takes no ice", u.icy(0, 1, 10, true), 1);
        due("a pleat behind it does", u.icy(0, 2, 10, true), 0);
        due("half", u.icy(0, 2, 5, false), 2);
    }

    private static void seed() {
        PleatRoads x = new PleatRoads();
        due("at first", x.seed(Long.MIN_VALUE), 0);
        due("seed", x.seed(Long.MAX_VALUE), Long.MIN_VALUE);
        due("seed", x.seed(0), Long.MAX_VALUE);
        x.summers(1);
        due("seed", x.seed(0), 1442695040888963407L);
    }

    private static void summers() {
        PleatRoads x = on("RF10F10F10F93T213T190");
        due("m", x.summers(0), OUTSIDE);
        due("m", x.summers(31), OUTSIDE);
        due("m", x.summers(-1), OUTSIDE);
        due("nothing changed", x.seed(0), 0);
        // A seed is sought for each that is left of 26, by which one time tells what it does.
        boolean[] seen = new boolean[26];
        for (long s = 0; s < 400; s++) {
            long v = s * 6364136223846793005L + 1442695040888963407L;
            int left = (int) ((v >>> 33) % 26);
            int want = left == 0 ? 2 : left == 1 ? 4 : left == 2 ? 2 : left == 3 ? 4 : 3;
            seen[left] = true;
            PleatRoads y = on("RF10F10F10F93T213T190");
            y.seed(s);
            due("summers of seed " + s, y.summers(1), want);
            due("the seed then", y.seed(0), v);
            due("nothing changed", y.count(3) + y.count(4) + y.count(5) + y.count(9), 0);
            due("nothing changed", y.count(7), 6);
        }
        for (int left = 0; left < 26; left++) {
            due("left " + left + " was met", seen[left] ? 1 : 0, 1);
        }
        // What is left goes on within one call: 30 times at once differ from 30 times one.
        PleatRoads together = on("RF10F10F10F93T213T190");
        PleatRoads single = on("RF10F10F10F93T213T190");
        together.summers(30);
        for (int i = 0; i < 30; i++) {
            single.summers(1);
        }
        due("the seed goes on alike", together.seed(0) == single.seed(0) ? 1 : 0, 1);
    }

    private static void keep() {
        PleatRoads x = on("RF50T090T193");
        due("slot", x.keep(-1), UNKNOWN);
        due("slot", x.keep(2), UNKNOWN);
        due("keep", x.keep(0), 0);
        x.step(0, true);
        x.step(1, false);
        due("keep", x.keep(1), 2);
        due("the row stays", x.count(9), 2);
        x.rest(0);
        due("keep over it", x.keep(0), 3);
        due("again", x.again(0), 3);
        due("again", x.again(1), 2);
    }

    private static void again() {
        PleatRoads x = on("RF50F52T093T193");
        due("slot", x.again(-1), UNKNOWN);
        due("slot", x.again(2), UNKNOWN);
        due("none", x.again(1), STATE);
        x.freeze();
        x.grease(0);
        x.step(0, true);
        due("keep", x.keep(1), 1);
        x.thaw();
        x.step(1, true);
        x.rest(1);
        due("again", x.again(1), 1);
        due("frost", x.count(4), 1);
        due("greased", x.count(5), 3);
        due("open", x.count(6), 1);
        due("places", x.count(7), 2);
        due("wind", x.count(8), 14);
        due("the row is empty", x.count(9), 0);
        due("the row is empty", x.undo(), STATE);
        x.rest(0);
        due("one more", x.undo(), 0);
        due("again", x.again(1), 1);
        due("none in the other", x.again(0), STATE);
    }

    private static void count() {
        PleatRoads x = on("RF50F52T093T193T250");
        due("what", x.count(-1), OUTSIDE);
        due("what", x.count(11), OUTSIDE);
        x.step(1, true);
        x.freeze();
        x.freeze();
        x.hear(3, 1);
        int[] all = {19, 2, 3, 1, 2, 2, 2, 5, 20, 3, 1};
        for (int what = 0; what <= 10; what++) {
            due("count(" + what + ")", x.count(what), all[what]);
        }
    }

    public static void main(String[] args) {
        promise = 1; aNewObject();
        promise = 2; write();
        promise = 3; wipe();
        promise = 4; fault();
        promise = 5; road();
        promise = 6; pleat();
        promise = 7; traveller();
        promise = 8; step();
        promise = 9; rest();
        promise = 10; grease();
        promise = 11; freeze();
        promise = 12; thaw();
        promise = 13; undo();
        promise = 14; reach();
        promise = 15; fewest();
        promise = 16; wants();
        promise = 17; shutIn();
        promise = 18; meet();
        promise = 19; judge();
        promise = 20; hear();
        promise = 21; unhear();
        promise = 22; who();
        promise = 23; share();
        promise = 24; rests();
        promise = 25; icy();
        promise = 26; seed();
        promise = 27; summers();
        promise = 28; keep();
        promise = 29; again();
        promise = 30; count();
        System.out.println(wrong == 0 ? "all promises hold" : wrong + " answers are not as due");
        if (wrong != 0) {
            System.exit(1);
        }
    }
}
