/** The edges of promises 20 to 22: who it was, by how far it was heard. */
public final class HearEdgesTest {
    private static final int OUTSIDE = -2, FULL = -4, NONE = -9;

    private static void due(String call, long got, long want) {
        Edges.due(call, got, want);
    }

    private static PleatRoads on(String text) {
        return Edges.on(text);
    }

    /** A busy road on which six have been heard. */
    private static PleatRoads fullOfHearsay() {
        PleatRoads x = Edges.busy();
        for (int i = 3; i <= 6; i++) {
            due("hear(4, 0)", x.hear(4, 0), i);
        }
        return x;
    }

    private static void whoIs(String text, int place, int came, int many, int first) {
        PleatRoads x = on(text);
        x.hear(place, came);
        due("who(0) of " + text + " to " + place + ": " + came, x.who(0), many);
        due("who(1) of " + text + " to " + place + ": " + came, x.who(1), first);
    }

    // ---- promise 20

    static void p20_places0To10AreHeardCameOrNot() {
        for (int place = 0; place <= 10; place++) {
            for (int came = 0; came <= 1; came++) {
                PleatRoads x = new PleatRoads();
                due("hear(" + place + ", " + came + ")", x.hear(place, came), 1);
                due("count(10)", x.count(10), 1);
            }
        }
    }

    static void p20_placesBeyondAreOutsideAndChangeNothing() {
        for (int place : Edges.beyond(0, 10)) {
            Edges.leavesBusy("hear(" + place + ", 0)", x -> x.hear(place, 0), OUTSIDE);
            Edges.leavesBusy("hear(" + place + ", 1)", x -> x.hear(place, 1), OUTSIDE);
            Edges.leavesBusy("hear(" + place + ", 2)", x -> x.hear(place, 2), OUTSIDE);
        }
    }

    static void p20_cameBeyond0And1IsOutsideAndChangesNothing() {
        for (int came : Edges.beyond(0, 1)) {
            Edges.leavesBusy("hear(0, " + came + ")", x -> x.hear(0, came), OUTSIDE);
            Edges.leavesBusy("hear(10, " + came + ")", x -> x.hear(10, came), OUTSIDE);
        }
    }

    static void p20_sixAreHeardAndHowManyIsAnswered() {
        PleatRoads x = new PleatRoads();
        for (int many = 1; many <= 6; many++) {
            due("hear(0, 1)", x.hear(0, 1), many);
            due("count(10)", x.count(10), many);
        }
    }

    static void p20_theSeventhIsFullAndChangesNothing() {
        Edges.leavesAll("hear(0, 1), the seventh", HearEdgesTest::fullOfHearsay, x -> x.hear(0, 1), FULL);
        Edges.leavesAll("hear(0, 0), the seventh", HearEdgesTest::fullOfHearsay, x -> x.hear(0, 0), FULL);
    }

    static void p20_outsideGoesAheadOfFull() {
        Edges.leavesAll("hear(11, 0), the seventh", HearEdgesTest::fullOfHearsay, x -> x.hear(11, 0), OUTSIDE);
        Edges.leavesAll("hear(-1, 0), the seventh", HearEdgesTest::fullOfHearsay, x -> x.hear(-1, 0), OUTSIDE);
        Edges.leavesAll("hear(0, 2), the seventh", HearEdgesTest::fullOfHearsay, x -> x.hear(0, 2), OUTSIDE);
        Edges.leavesAll("hear(0, -1), the seventh", HearEdgesTest::fullOfHearsay, x -> x.hear(0, -1), OUTSIDE);
    }

    static void p20_placesThatTheRoadHasNotAreHeardToo() {
        PleatRoads x = on("RF10T010");
        due("hear(2, 0)", x.hear(2, 0), 1);
        due("hear(10, 1)", x.hear(10, 1), 2);
    }

    static void p20_itIsNoActAndChangesNothingElse() {
        PleatRoads x = Edges.busy();
        due("hear(4, 0)", x.hear(4, 0), 3);
        due("count(9)", x.count(9), 6);
        due("count(3)", x.count(3), 4);
        x.unhear();
        x.hear(1, 1);
        x.hear(3, 0);
        Edges.alike("behind hearing the same anew", x, Edges.busy());
    }

    // ---- promise 21

    static void p21_nothingHeardWas0() {
        PleatRoads x = new PleatRoads();
        due("unhear()", x.unhear(), 0);
        x.hear(1, 1);
        due("unhear()", x.unhear(), 1);
        due("unhear()", x.unhear(), 0);
    }

    static void p21_allSixAreForgottenAndSixMoreCanBeHeard() {
        PleatRoads x = fullOfHearsay();
        due("unhear()", x.unhear(), 6);
        due("count(10)", x.count(10), 0);
        due("who(0)", x.who(0), 36);
        for (int many = 1; many <= 6; many++) {
            due("hear(0, 1)", x.hear(0, 1), many);
        }
        due("hear(0, 1)", x.hear(0, 1), FULL);
    }

    static void p21_itChangesNothingElse() {
        PleatRoads x = Edges.busy();
        due("unhear()", x.unhear(), 2);
        due("count(9)", x.count(9), 6);
        x.hear(1, 1);
        x.hear(3, 0);
        Edges.alike("behind unhear and the same", x, Edges.busy());
    }

    // ---- promise 22

    static void p22_whatBeyondIsOutsideAndChangesNothing() {
        for (int what : Edges.beyond(0, 1)) {
            Edges.leavesBusy("who(" + what + ")", x -> x.who(what), OUTSIDE);
        }
    }

    static void p22_itChangesNothing() {
        // To 1 for 5: plain, lungs 5 to 9, stout 2 to 9, asthmatic 6 to 9. Not to 3, for 5, 1, 2 together: plain, lungs to 7,
        // stout to 2 (2, 0, 1), asthmatic all.
        Edges.leavesBusy("who(0)", x -> x.who(0), 3 + 3 + 1 + 4);
        Edges.leavesBusy("who(1)", x -> x.who(1), 5);
    }

    static void p22_byNothingHeardItCanBeAllOf36() {
        due("who(0) without a road", new PleatRoads().who(0), 36);
        due("who(1) without a road", new PleatRoads().who(1), 1);
        due("who(0)", on(Edges.TEN_STIFF).who(0), 36);
        due("who(1)", on(Edges.TEN_STIFF).who(1), 1);
    }

    static void p22_nobodyIs0AndNone() {
        whoIs("RF10", 0, 0, 0, NONE);
        whoIs("RF10", 2, 1, 0, NONE);
        PleatRoads x = on("RF50");
        x.hear(1, 1);
        x.hear(1, 0);
        due("who(0)", x.who(0), 0);
        due("who(1)", x.who(1), NONE);
    }

    static void p22_toPlace0AllCome() {
        whoIs("RF90", 0, 1, 36, 1);
        whoIs("RF90", 0, 0, 0, NONE);
        whoIs("R", 0, 1, 36, 1);
        whoIs("R", 0, 0, 0, NONE);
        PleatRoads x = new PleatRoads();
        x.hear(0, 1);
        due("who(0) without a road", x.who(0), 36);
    }

    static void p22_beyondTheLastPlaceNobodyComes() {
        whoIs("RF13", 1, 1, 35, 1);
        whoIs("RF13", 2, 1, 0, NONE);
        whoIs("RF13", 2, 0, 36, 1);
        whoIs("RF13", 10, 1, 0, NONE);
        whoIs("R", 1, 1, 0, NONE);
        whoIs("R", 1, 0, 36, 1);
    }

    static void p22_toPlace10SomeCome() {
        whoIs(Edges.TEN_SOFT, 10, 1, 9, 11);
        whoIs(Edges.TEN_SOFT, 9, 1, 11, 9);
        whoIs(Edges.TEN_SOFT, 10, 0, 27, 1);
        // An asthmatic of breath 1 alone does not come over an inn.
        whoIs(Edges.TEN_INNS, 10, 1, 35, 1);
        whoIs(Edges.TEN_INNS, 10, 0, 1, 21);
    }

    static void p22_asMuchBreathAsItPaysIsEnough() {
        // Plain ones and lungs from s, stout ones from half of s (1 at least: there is no breath 0), asthmatics from s and 1.
        int[] plain = {9, 8, 7, 6, 5, 4, 3, 2, 1};
        int[] stout = {9, 9, 9, 8, 8, 7, 7, 6, 6};
        int[] asthmatic = {8, 7, 6, 5, 4, 3, 2, 1, 0};
        for (int s = 1; s <= 9; s++) {
            whoIs("RF" + s + "0", 1, 1, 2 * plain[s - 1] + stout[s - 1] + asthmatic[s - 1], s);
        }
    }

    static void p22_theFirstIsTheLeastOf10TimesKindAndBreath() {
        whoIs("RF90", 1, 1, 8, 9);
        whoIs("RF90F10", 2, 1, 6, 14);
        whoIs("RF93", 1, 0, 1, 21);
        whoIs("RF80", 1, 0, 7 + 3 + 8 + 7, 1);
    }

    static void p22_eachOfSixThatIsHeardCounts() {
        for (int turned = 0; turned < 6; turned++) {
            PleatRoads x = on(Edges.TEN_SOFT);
            for (int i = 0; i < 6; i++) {
                // Only stout ones come to 10; the one that is turned tells that they did not.
                x.hear(10, i == turned ? 0 : 1);
            }
            due("who(0), the " + turned + ". turned", x.who(0), 0);
        }
        PleatRoads y = on(Edges.TEN_SOFT);
        for (int place = 1; place <= 6; place++) {
            y.hear(place, place <= 5 ? 1 : 0);
        }
        // To 5, not to 6: plain and lungs of 5, none of the stout ones, no asthmatic of 10 or 11.
        due("who(0)", y.who(0), 2);
        due("who(1)", y.who(1), 5);
    }

    static void p22_anInnGivesBreathAgainIfItIsPaid() {
        // 3, then 1, then 3 of breath again: plain, lungs from 4, stout from 1 (1, 0, 1), asthmatic from 6 (4, 2, 4).
        whoIs("RF30F93F30", 3, 1, 6 + 9 + 4 + 6, 4);
        whoIs("RF30F10F30", 3, 1, 3 + 8 + 0 + 3, 7);
    }

    static void p22_smoothOnesAreGreasedCrackedOnesHalf() {
        whoIs("RF52", 1, 1, 7 + 9 + 6 + 7, 3);
        whoIs("RF51", 1, 1, 8 + 9 + 7 + 8, 2);
    }

    static void p22_frostOpenAndGreaseAreSetAside() {
        PleatRoads x = on("RF50F50T093");
        x.hear(1, 1);
        due("who(0)", x.who(0), 22);
        for (int i = 0; i < 5; i++) {
            x.freeze();
        }
        due("who(0) in frost", x.who(0), 22);
        x.thaw();
        x.grease(0);
        due("who(0) greased", x.who(0), 22);
        x.step(0, true);
        due("count(6)", x.count(6), 1);
        due("who(0) open", x.who(0), 22);
        due("who(1)", x.who(1), 5);
    }

    static void p22_itGoesByTheRoadThatThereIs() {
        PleatRoads x = on("RF90");
        x.hear(1, 1);
        due("who(0)", x.who(0), 8);
        Edges.tell(x, "RF10");
        due("who(0), only told", x.who(0), 8);
        x.road();
        due("who(0)", x.who(0), 35);
    }

    public static void main(String[] args) throws ReflectiveOperationException {
        Edges.run(HearEdgesTest.class, 20, 22);
    }
}
