import java.util.Arrays;

/** Folded roads, and who comes where on one breath: see README.md and the document's promises. */
public final class PleatRoads {
    public static final int UNKNOWN = -1, OUTSIDE = -2, STATE = -3, FULL = -4, NONE = -9;

    private static final int MOST_LETTERS = 52, MOST_PLEATS = 10, MOST_TRAVELLERS = 5;
    private static final int MOST_ACTS = 14, MOST_HEARD = 6, MOST_FROST = 5, MOST_MOVES = 30;
    private static final int MOST_DOINGS = 4, MOST_SUMMERS = 30, SLOTS = 2, MOST_BREATH = 9;
    private static final int CRACKED = 1, SMOOTH = 2, INN = 3;
    private static final int STOUT = 1, ASTHMATIC = 2, LUNGS = 3;
    private static final int ON = 1, STAND = 2, CHOICES = 3, PAIRS = CHOICES * CHOICES;
    private static final int ICED_AT_MOST = 8, TENTHS = 10;

    /** Divisible by every number of travellers, so that a place shared by some is cut without a rest. */
    private static final int SHARED_BELOW = 60;

    private static final long[] THOUSANDS = {1L, 1000L, 1000000L, 1000000000L, 1000000000000L};

    private final Script script = new Script();
    private final Road draft = new Road();
    private final Road road = new Road();
    private final Standing now = new Standing(road);
    private final Standing supposed = new Standing(road);
    private final ActRow acts = new ActRow(road);
    private final Standing[] slots = new Standing[SLOTS];
    private final boolean[] kept = new boolean[SLOTS];
    private final Walk walk = new Walk(road);
    private final Hearsay hearsay = new Hearsay(road);
    private final int[] gainsOfOne = new int[PAIRS];
    private final int[] gainsOfOther = new int[PAIRS];
    private long seed;

    public PleatRoads() {
        for (int slot = 0; slot < SLOTS; slot++) {
            slots[slot] = new Standing(road);
        }
    }

    // ---- the road

    public int write(int letter) {
        if (letter < 0 || letter > 255) {
            return OUTSIDE;
        }
        return script.append(letter);
    }

    public int wipe() {
        int was = script.length;
        script.length = 0;
        return was;
    }

    public int fault() {
        return script.readInto(draft);
    }

    public int road() {
        if (script.readInto(draft) != NONE) {
            return STATE;
        }
        script.readInto(road);
        now.begin();
        acts.length = 0;
        for (int slot = 0; slot < SLOTS; slot++) {
            kept[slot] = false;
        }
        return 10 * road.pleats + road.travellers;
    }

    public int pleat(int pleat, int what) {
        if (!road.hasPleat(pleat)) {
            return UNKNOWN;
        }
        switch (what) {
            case 0: return road.stiffness[pleat];
            case 1: return road.pleatKind[pleat];
            case 2: return now.costOf(pleat);
            case 3: return now.greased >> pleat & 1;
            case 4: return now.open >> pleat & 1;
            default: return OUTSIDE;
        }
    }

    public int traveller(int traveller, int what) {
        if (!road.hasTraveller(traveller)) {
            return UNKNOWN;
        }
        switch (what) {
            case 0: return now.place[traveller];
            case 1: return road.breath[traveller];
            case 2: return road.travellerKind[traveller];
            case 3: return now.wind[traveller];
            case 4: return now.tollBeside(traveller, false);
            case 5: return now.tollBeside(traveller, true);
            default: return OUTSIDE;
        }
    }

    // ---- acts

    public int step(int traveller, boolean on) {
        if (!road.hasTraveller(traveller)) {
            return UNKNOWN;
        }
        if (!now.canStep(traveller, on)) {
            return STATE;
        }
        acts.remember(now);
        now.doStep(traveller, on);
        return now.place[traveller];
    }

    public int rest(int traveller) {
        if (!road.hasTraveller(traveller)) {
            return UNKNOWN;
        }
        acts.remember(now);
        now.doRest(traveller);
        return now.wind[traveller];
    }

    public int grease(int pleat) {
        if (!road.hasPleat(pleat)) {
            return UNKNOWN;
        }
        if (!now.canGrease(pleat)) {
            return STATE;
        }
        acts.remember(now);
        now.doGrease(pleat);
        return now.costOf(pleat);
    }

    public int freeze() {
        if (!now.canFreeze()) {
            return STATE;
        }
        acts.remember(now);
        now.frost++;
        return now.frost;
    }

    public int thaw() {
        if (now.frost == 0) {
            return STATE;
        }
        acts.remember(now);
        int was = now.frost;
        now.frost = 0;
        return was;
    }

    public int undo() {
        if (acts.length == 0) {
            return STATE;
        }
        acts.takeBack(now);
        return acts.length;
    }

    // ---- who comes where

    public int reach(int traveller) {
        if (!road.hasTraveller(traveller)) {
            return UNKNOWN;
        }
        return reachIn(now, traveller);
    }

    public int fewest(int traveller, int place) {
        if (!road.hasTraveller(traveller) || !road.hasPlace(place)) {
            return UNKNOWN;
        }
        walk.prepare(now, traveller, now.greased, 0);
        return walk.movesTo(place);
    }

    public int wants(int traveller, int place) {
        if (!road.hasTraveller(traveller) || !road.hasPlace(place)) {
            return UNKNOWN;
        }
        int all = (1 << road.pleats) - 1;
        // Grease never hinders: what all of it can't bring about, no part of it can.
        if (!comesWith(traveller, place, all, 0)) {
            return NONE;
        }
        for (int size = 0; size <= road.pleats; size++) {
            for (int more = 0; more <= all; more++) {
                if (Integer.bitCount(more) == size && (more & now.greased) == 0
                        && comesWith(traveller, place, now.greased | more, 0)) {
                    return more;
                }
            }
        }
        return NONE;
    }

    public int shutIn() {
        int shut = 0;
        for (int who = 0; who < road.travellers; who++) {
            if (reachIn(now, who) == 1 << now.place[who]) {
                shut |= 1 << who;
            }
        }
        return shut;
    }

    public int meet(int one, int other) {
        if (!road.hasTraveller(one) || !road.hasTraveller(other)) {
            return UNKNOWN;
        }
        return reachIn(now, one) & reachIn(now, other);
    }

    public int judge(int n, long row) {
        if (n < 1 || n > MOST_DOINGS || row < 0 || row >= THOUSANDS[n]) {
            return OUTSIDE;
        }
        supposed.takeFrom(now);
        for (int doing = 0; doing < n; doing++) {
            int figures = (int) (row / THOUSANDS[n - 1 - doing] % 1000);
            if (!supposed.doTold(figures / 100, figures / 10 % 10, figures % 10)) {
                return doing;
            }
        }
        return NONE;
    }

    // ---- who it was

    public int hear(int place, int came) {
        if (place < 0 || place > MOST_PLEATS || came < 0 || came > 1) {
            return OUTSIDE;
        }
        return hearsay.append(place, came == 1);
    }

    public int unhear() {
        int was = hearsay.length;
        hearsay.length = 0;
        return was;
    }

    public int who(int what) {
        if (what == 0) {
            return hearsay.howMany();
        }
        return what == 1 ? hearsay.firstOne() : OUTSIDE;
    }

    // ---- shares, rests, chances

    public int share(int traveller, boolean upper) {
        if (!road.hasTraveller(traveller)) {
            return UNKNOWN;
        }
        // In a mean of all orders a place falls alike to each who reaches it: to the first of them to come.
        int own = reachIn(now, traveller);
        int above = 0;
        for (int place = 0; place <= road.pleats; place++) {
            if ((own >> place & 1) == 1) {
                above += sharedPart(howManyReach(place));
            }
        }
        return fraction(above, SHARED_BELOW, upper);
    }

    public int rests(int one, int other, int what) {
        if (!road.hasTraveller(one) || !road.hasTraveller(other)) {
            return UNKNOWN;
        }
        if (one == other || what < 0 || what > 1) {
            return OUTSIDE;
        }
        for (int pair = 0; pair < PAIRS; pair++) {
            tryPair(one, other, pair);
        }
        return what == 0 ? pairsAtRest() : firstPairAtRest();
    }

    public int icy(int traveller, int place, int x, boolean upper) {
        if (!road.hasTraveller(traveller) || !road.hasPlace(place)) {
            return UNKNOWN;
        }
        if (x < 0 || x > TENTHS) {
            return OUTSIDE;
        }
        int may = road.canBeIced();
        int many = Integer.bitCount(may);
        int above = 0;
        for (int ice = 0; ice < 1 << ICED_AT_MOST; ice++) {
            if ((ice & ~may) == 0) {
                int iced = Integer.bitCount(ice);
                int ways = power(x, iced) * power(TENTHS - x, many - iced);
                if (ways > 0 && comesWith(traveller, place, now.greased, ice)) {
                    above += ways;
                }
            }
        }
        return fraction(above, power(TENTHS, many), upper);
    }

    public long seed(long v) {
        long was = seed;
        seed = v;
        return was;
    }

    public int summers(int m) {
        if (m < 1 || m > MOST_SUMMERS) {
            return OUTSIDE;
        }
        supposed.takeFrom(now);
        int together = 0;
        for (int time = 0; time < m; time++) {
            seed = seed * 6364136223846793005L + 1442695040888963407L;
            supposed.doDrawn((int) ((seed >>> 33) % 26));
            together += supposed.placesTogether();
        }
        return together;
    }

    // ---- slots

    public int keep(int slot) {
        if (slot < 0 || slot >= SLOTS) {
            return UNKNOWN;
        }
        slots[slot].takeFrom(now);
        kept[slot] = true;
        return now.steps;
    }

    public int again(int slot) {
        if (slot < 0 || slot >= SLOTS) {
            return UNKNOWN;
        }
        if (!kept[slot]) {
            return STATE;
        }
        now.takeFrom(slots[slot]);
        acts.length = 0;
        return now.steps;
    }

    public int count(int what) {
        switch (what) {
            case 0: return script.length;
            case 1: return road.pleats;
            case 2: return road.travellers;
            case 3: return now.steps;
            case 4: return now.frost;
            case 5: return now.greased;
            case 6: return now.open;
            case 7: return now.placesTaken();
            case 8: return now.windTogether();
            case 9: return acts.length;
            case 10: return hearsay.length;
            default: return OUTSIDE;
        }
    }

    // ---- what several calls ask

    private int reachIn(Standing standing, int traveller) {
        walk.prepare(standing, traveller, standing.greased, 0);
        return walk.places();
    }

    private boolean comesWith(int traveller, int place, int greased, int ice) {
        walk.prepare(now, traveller, greased, ice);
        return (walk.places() >> place & 1) == 1;
    }

    private int howManyReach(int place) {
        int many = 0;
        for (int who = 0; who < road.travellers; who++) {
            many += reachIn(now, who) >> place & 1;
        }
        return many;
    }

    private static int sharedPart(int many) {
        return many == 0 ? 0 : SHARED_BELOW / many;
    }

    private static int power(int base, int exponent) {
        int product = 1;
        for (int i = 0; i < exponent; i++) {
            product *= base;
        }
        return product;
    }

    private static int fraction(int above, int below, boolean upper) {
        int common = commonDivisor(above, below);
        if (common == 0) {
            return NONE;
        }
        return upper ? above / common : below / common;
    }

    private static int commonDivisor(int a, int b) {
        int larger = a;
        int smaller = b;
        // The smaller one is halved within two rounds at most: 64 rounds outlast every int.
        for (int round = 0; round < 64 && smaller != 0; round++) {
            int left = larger % smaller;
            larger = smaller;
            smaller = left;
        }
        return larger;
    }

    private void tryPair(int one, int other, int pair) {
        supposed.takeFrom(now);
        int ofOne = pair / CHOICES;
        int ofOther = pair % CHOICES;
        boolean oneStepped = ofOne != STAND && supposed.stepIfItCan(one, ofOne == ON);
        boolean otherStepped = ofOther != STAND && supposed.stepIfItCan(other, ofOther == ON);
        gainsOfOne[pair] = (oneStepped ? 1 : 0) + gainOfPlaces(one, other);
        gainsOfOther[pair] = (otherStepped ? 1 : 0) + gainOfPlaces(other, one);
    }

    private int gainOfPlaces(int mine, int theirs) {
        int there = supposed.place[theirs];
        if (supposed.place[mine] == there) {
            return 0;
        }
        return 2 + 4 * (reachIn(supposed, mine) >> there & 1);
    }

    private boolean isAtRest(int pair) {
        int ofOne = pair / CHOICES;
        int ofOther = pair % CHOICES;
        for (int choice = 0; choice < CHOICES; choice++) {
            if (gainsOfOne[choice * CHOICES + ofOther] > gainsOfOne[pair]
                    || gainsOfOther[ofOne * CHOICES + choice] > gainsOfOther[pair]) {
                return false;
            }
        }
        return true;
    }

    private int pairsAtRest() {
        int many = 0;
        for (int pair = 0; pair < PAIRS; pair++) {
            many += isAtRest(pair) ? 1 : 0;
        }
        return many;
    }

    private int firstPairAtRest() {
        for (int pair = 0; pair < PAIRS; pair++) {
            if (isAtRest(pair)) {
                return 10 * (pair / CHOICES) + pair % CHOICES;
            }
        }
        return NONE;
    }

    /** What the text tells of a road and no act changes. */
    private static final class Road {
        final int[] stiffness = new int[MOST_PLEATS];
        final int[] pleatKind = new int[MOST_PLEATS];
        final int[] firstPlace = new int[MOST_TRAVELLERS];
        final int[] breath = new int[MOST_TRAVELLERS];
        final int[] travellerKind = new int[MOST_TRAVELLERS];
        int pleats;
        int travellers;

        boolean hasPleat(int pleat) {
            return pleat >= 0 && pleat < pleats;
        }

        boolean hasTraveller(int traveller) {
            return traveller >= 0 && traveller < travellers;
        }

        boolean hasPlace(int place) {
            return place >= 0 && place <= pleats;
        }

        void clear() {
            pleats = 0;
            travellers = 0;
        }

        void addPleat(int stiff, int kind) {
            if (pleats < MOST_PLEATS) {
                stiffness[pleats] = stiff;
                pleatKind[pleats] = kind;
                pleats++;
            }
        }

        void addTraveller(int place, int breathTold, int kind) {
            if (travellers < MOST_TRAVELLERS) {
                firstPlace[travellers] = place;
                breath[travellers] = breathTold;
                travellerKind[travellers] = kind;
                travellers++;
            }
        }

        int smoothOnes() {
            int smooth = 0;
            for (int pleat = 0; pleat < pleats; pleat++) {
                smooth |= pleatKind[pleat] == SMOOTH ? 1 << pleat : 0;
            }
            return smooth;
        }

        int canBeIced() {
            int may = 0;
            for (int pleat = 0; pleat < pleats && pleat < ICED_AT_MOST; pleat++) {
                may |= pleatKind[pleat] != INN ? 1 << pleat : 0;
            }
            return may;
        }

        /** What a pleat costs that is not open. */
        int costShut(int pleat, int frost, int greased) {
            int kind = pleatKind[pleat];
            if (kind == INN) {
                return 1;
            }
            int cost = stiffness[pleat] + frost;
            if (kind == CRACKED) {
                cost = cost / 2;
            }
            if ((greased >> pleat & 1) == 1) {
                cost -= 2;
            }
            return cost < 1 ? 1 : cost;
        }

        static int tollFor(int travellerKind, int cost) {
            switch (travellerKind) {
                case STOUT: return cost / 2;
                case ASTHMATIC: return cost + 1;
                default: return cost;
            }
        }

        static int windRested(int wind, int breath) {
            return Math.min(breath, wind + Math.max(1, breath / 2));
        }
    }

    /** The text, letter by letter, and how it is read. */
    private static final class Script {
        final int[] letters = new int[MOST_LETTERS];
        int length;

        int append(int letter) {
            if (length >= MOST_LETTERS) {
                return FULL;
            }
            letters[length] = letter;
            length++;
            return length;
        }

        /** Reads what can be read into a road, and answers the fault. */
        int readInto(Road into) {
            into.clear();
            if (length == 0 || letters[0] != 'R') {
                return 0;
            }
            int at = 1;
            for (int part = 0; part < MOST_LETTERS && at < length; part++) {
                int fault = readPart(at, into);
                if (fault != NONE) {
                    return fault;
                }
                at += letters[at] == 'F' ? 3 : 4;
            }
            return NONE;
        }

        private int readPart(int at, Road into) {
            if (letters[at] == 'F' && into.pleats < MOST_PLEATS) {
                return readPleat(at, into);
            }
            if (letters[at] == 'T' && into.travellers < MOST_TRAVELLERS) {
                return readTraveller(at, into);
            }
            return at;
        }

        private int readPleat(int at, Road into) {
            int fault = figureFault(at + 1, 1, 9);
            if (fault == NONE) {
                fault = figureFault(at + 2, 0, 3);
            }
            if (fault == NONE) {
                into.addPleat(figure(at + 1), figure(at + 2));
            }
            return fault;
        }

        private int readTraveller(int at, Road into) {
            int fault = figureFault(at + 1, 0, Math.min(9, into.pleats));
            if (fault == NONE) {
                fault = figureFault(at + 2, 1, 9);
            }
            if (fault == NONE) {
                fault = figureFault(at + 3, 0, 3);
            }
            if (fault == NONE) {
                into.addTraveller(figure(at + 1), figure(at + 2), figure(at + 3));
            }
            return fault;
        }

        private int figureFault(int at, int least, int most) {
            if (at >= length) {
                return length;
            }
            return figure(at) >= least && figure(at) <= most ? NONE : at;
        }

        private int figure(int at) {
            return at >= 0 && at < MOST_LETTERS ? letters[at] - '0' : -1;
        }
    }

    /** All that acts change: who is where, with what wind, and how the road is then. */
    private static final class Standing {
        final Road road;
        final int[] place = new int[MOST_TRAVELLERS];
        final int[] wind = new int[MOST_TRAVELLERS];
        int greased;
        int open;
        int frost;
        int steps;

        Standing(Road road) {
            this.road = road;
        }

        void begin() {
            for (int who = 0; who < road.travellers; who++) {
                place[who] = road.firstPlace[who];
                wind[who] = road.breath[who];
            }
            greased = road.smoothOnes();
            open = 0;
            frost = 0;
            steps = 0;
        }

        void takeFrom(Standing other) {
            for (int who = 0; who < MOST_TRAVELLERS; who++) {
                place[who] = other.place[who];
                wind[who] = other.wind[who];
            }
            greased = other.greased;
            open = other.open;
            frost = other.frost;
            steps = other.steps;
        }

        int costOf(int pleat) {
            return (open >> pleat & 1) == 1 ? 0 : road.costShut(pleat, frost, greased);
        }

        private int pleatBeside(int traveller, boolean on) {
            return on ? place[traveller] : place[traveller] - 1;
        }

        int tollBeside(int traveller, boolean on) {
            int pleat = pleatBeside(traveller, on);
            return road.hasPleat(pleat) ? Road.tollFor(road.travellerKind[traveller], costOf(pleat)) : NONE;
        }

        boolean canStep(int traveller, boolean on) {
            if (!road.hasTraveller(traveller)) {
                return false;
            }
            int toll = tollBeside(traveller, on);
            return toll != NONE && wind[traveller] >= toll;
        }

        void doStep(int traveller, boolean on) {
            int pleat = pleatBeside(traveller, on);
            if (!road.hasPleat(pleat)) {
                return;
            }
            boolean atInn = road.pleatKind[pleat] == INN;
            wind[traveller] = atInn ? road.breath[traveller] : wind[traveller] - tollBeside(traveller, on);
            place[traveller] += on ? 1 : -1;
            open = road.travellerKind[traveller] == LUNGS ? 1 << pleat : 0;
            steps++;
        }

        void doRest(int traveller) {
            wind[traveller] = Road.windRested(wind[traveller], road.breath[traveller]);
            open = 0;
            steps++;
        }

        boolean canGrease(int pleat) {
            return road.hasPleat(pleat) && (greased >> pleat & 1) == 0;
        }

        void doGrease(int pleat) {
            greased |= 1 << pleat;
        }

        boolean canFreeze() {
            return frost < MOST_FROST;
        }

        boolean stepIfItCan(int traveller, boolean on) {
            boolean can = canStep(traveller, on);
            if (can) {
                doStep(traveller, on);
            }
            return can;
        }

        private boolean restIfItCan(int traveller) {
            boolean can = road.hasTraveller(traveller);
            if (can) {
                doRest(traveller);
            }
            return can;
        }

        private boolean greaseIfItCan(int pleat) {
            boolean can = canGrease(pleat);
            if (can) {
                doGrease(pleat);
            }
            return can;
        }

        private boolean freezeIfItCan() {
            boolean can = canFreeze();
            if (can) {
                frost++;
            }
            return can;
        }

        /** A doing told as three figures: whether it can be, or is so. */
        boolean doTold(int doing, int second, int third) {
            switch (doing) {
                case 1: return third <= 1 && stepIfItCan(second, third == 1);
                case 2: return second == 0 && restIfItCan(third);
                case 3: return second == 0 && greaseIfItCan(third);
                case 4: return second == 0 && third == 0 && freezeIfItCan();
                case 5: return road.hasTraveller(second) && place[second] == third;
                default: return false;
            }
        }

        /** A doing drawn in a summer, 0 to 25. */
        void doDrawn(int drawn) {
            if (drawn < 10) {
                stepIfItCan(drawn / 2, drawn % 2 == 1);
            } else if (drawn < 15) {
                restIfItCan(drawn - 10);
            } else if (drawn < 25) {
                greaseIfItCan(drawn - 15);
            } else {
                freezeIfItCan();
            }
        }

        int placesTogether() {
            int sum = 0;
            for (int who = 0; who < road.travellers; who++) {
                sum += place[who];
            }
            return sum;
        }

        int placesTaken() {
            int taken = 0;
            for (int who = 0; who < road.travellers; who++) {
                taken |= 1 << place[who];
            }
            return taken;
        }

        int windTogether() {
            int sum = 0;
            for (int who = 0; who < road.travellers; who++) {
                sum += wind[who];
            }
            return sum;
        }
    }

    /** How all stood ahead of each of the last acts, in a ring. */
    private static final class ActRow {
        final Standing[] ahead = new Standing[MOST_ACTS];
        int end;
        int length;

        ActRow(Road road) {
            for (int act = 0; act < MOST_ACTS; act++) {
                ahead[act] = new Standing(road);
            }
        }

        void remember(Standing standing) {
            ahead[end].takeFrom(standing);
            end = (end + 1) % MOST_ACTS;
            length = Math.min(MOST_ACTS, length + 1);
        }

        void takeBack(Standing into) {
            end = (end + MOST_ACTS - 1) % MOST_ACTS;
            length--;
            into.takeFrom(ahead[end]);
        }
    }

    /**
     * One traveller's ways over a road. More wind never hinders, so of each place (and of what is open
     * beside it) only the most wind with which it can be come to is held. A pleat that is open
     * elsewhere shuts with the first step or rest, so it need not be held.
     */
    private static final class Walk {
        private static final int SHUT = 0, BEHIND = 1, AHEAD = 2, MODES = 3;
        private static final int NODES = (MOST_PLEATS + 1) * MODES;

        final Road road;
        final int[] most = new int[NODES];
        final int[] mostNext = new int[NODES];
        // Each node's wind can grow from none to 0 to 9: no node is queued more often.
        final int[] queue = new int[NODES * (MOST_BREATH + 1)];
        final int[] tollShut = new int[MOST_PLEATS];
        final int[] tollOpen = new int[MOST_PLEATS];
        int breath;
        boolean isLungs;
        int startNode;
        int startWind;

        Walk(Road road) {
            this.road = road;
        }

        void prepare(Standing standing, int traveller, int greased, int ice) {
            int kind = road.travellerKind[traveller];
            for (int pleat = 0; pleat < road.pleats; pleat++) {
                int more = ice >> pleat & 1;
                tollShut[pleat] = Road.tollFor(kind, road.costShut(pleat, standing.frost, greased) + more);
                tollOpen[pleat] = Road.tollFor(kind, more);
            }
            breath = road.breath[traveller];
            isLungs = kind == LUNGS;
            startWind = standing.wind[traveller];
            startNode = standing.place[traveller] * MODES + modeAt(standing.place[traveller], standing.open);
        }

        private static int modeAt(int place, int open) {
            if ((open >> place & 1) == 1) {
                return AHEAD;
            }
            return place > 0 && (open >> place - 1 & 1) == 1 ? BEHIND : SHUT;
        }

        private void beginAt() {
            Arrays.fill(most, -1);
            most[startNode] = startWind;
        }

        /** The wind behind a step from a node; below 0: the step can't be. */
        private int windBeyond(int node, boolean on) {
            int place = node / MODES;
            int pleat = on ? place : place - 1;
            if (pleat < 0 || pleat >= road.pleats) {
                return -1;
            }
            boolean open = node % MODES == (on ? AHEAD : BEHIND);
            int left = most[node] - (open ? tollOpen[pleat] : tollShut[pleat]);
            return left >= 0 && road.pleatKind[pleat] == INN ? breath : left;
        }

        private int nodeBeyond(int node, boolean on) {
            int place = node / MODES + (on ? 1 : -1);
            int mode = on ? BEHIND : AHEAD;
            return place * MODES + (isLungs ? mode : SHUT);
        }

        /** The places that steps alone lead to, as bits. */
        int places() {
            beginAt();
            int seen = 0;
            int tail = 1;
            queue[0] = startNode;
            for (int head = 0; head < tail && head < queue.length; head++) {
                seen |= 1 << queue[head] / MODES;
                tail = enqueueBeyond(queue[head], true, tail);
                tail = enqueueBeyond(queue[head], false, tail);
            }
            return seen;
        }

        private int enqueueBeyond(int node, boolean on, int tail) {
            int wind = windBeyond(node, on);
            if (wind < 0 || tail >= queue.length) {
                return tail;
            }
            int beyond = nodeBeyond(node, on);
            if (wind <= most[beyond]) {
                return tail;
            }
            most[beyond] = wind;
            queue[tail] = beyond;
            return tail + 1;
        }

        /** The fewest steps and rests that lead to a place. */
        int movesTo(int place) {
            beginAt();
            for (int moves = 0; moves <= MOST_MOVES; moves++) {
                for (int mode = 0; mode < MODES; mode++) {
                    if (most[place * MODES + mode] >= 0) {
                        return moves;
                    }
                }
                moveOnce();
            }
            return NONE;
        }

        private void moveOnce() {
            Arrays.fill(mostNext, -1);
            for (int node = 0; node < NODES; node++) {
                if (most[node] >= 0) {
                    stepOnce(node, true);
                    stepOnce(node, false);
                    raise(node - node % MODES + SHUT, Road.windRested(most[node], breath));
                }
            }
            System.arraycopy(mostNext, 0, most, 0, NODES);
        }

        private void stepOnce(int node, boolean on) {
            int wind = windBeyond(node, on);
            if (wind >= 0) {
                raise(nodeBeyond(node, on), wind);
            }
        }

        private void raise(int node, int wind) {
            mostNext[node] = Math.max(mostNext[node], wind);
        }
    }

    /** What was heard of somebody, and who it can have been. */
    private static final class Hearsay {
        private static final int KINDS = 4;

        final Road road;
        final int[] place = new int[MOST_HEARD];
        final boolean[] came = new boolean[MOST_HEARD];
        int length;

        Hearsay(Road road) {
            this.road = road;
        }

        int append(int placeTold, boolean cameThere) {
            if (length >= MOST_HEARD) {
                return FULL;
            }
            place[length] = placeTold;
            came[length] = cameThere;
            length++;
            return length;
        }

        int howMany() {
            int many = 0;
            for (int kind = 0; kind < KINDS; kind++) {
                for (int breath = 1; breath <= MOST_BREATH; breath++) {
                    many += isOne(kind, breath) ? 1 : 0;
                }
            }
            return many;
        }

        int firstOne() {
            for (int kind = 0; kind < KINDS; kind++) {
                for (int breath = 1; breath <= MOST_BREATH; breath++) {
                    if (isOne(kind, breath)) {
                        return 10 * kind + breath;
                    }
                }
            }
            return NONE;
        }

        private boolean isOne(int kind, int breath) {
            int farthest = farthestOn(kind, breath);
            for (int heard = 0; heard < length; heard++) {
                if (farthest >= place[heard] != came[heard]) {
                    return false;
                }
            }
            return true;
        }

        private int farthestOn(int kind, int breath) {
            int smooth = road.smoothOnes();
            int wind = breath;
            for (int pleat = 0; pleat < road.pleats; pleat++) {
                int toll = Road.tollFor(kind, road.costShut(pleat, 0, smooth));
                if (toll > wind) {
                    return pleat;
                }
                wind = road.pleatKind[pleat] == INN ? breath : wind - toll;
            }
            return road.pleats;
        }
    }
}
