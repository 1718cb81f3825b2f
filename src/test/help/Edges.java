import java.lang.reflect.Method;
import java.util.ArrayList;
import java.util.Arrays;
import java.util.Comparator;
import java.util.List;
import java.util.function.Supplier;
import java.util.function.ToLongFunction;

/**
 * What the tests of the edges share. A test is a method whose name begins with its promise ("p08_ ..");
 * it is about one sentence of the document, and tells what is not as due.
 */
final class Edges {
    static final int UNKNOWN = -1, OUTSIDE = -2, STATE = -3, FULL = -4, NONE = -9;
    static final String TEN_STIFF = "RF90F90F90F90F90F90F90F90F90F90";
    static final String TEN_SOFT = "RF10F10F10F10F10F10F10F10F10F10";
    static final String TEN_INNS = "RF93F93F93F93F93F93F93F93F93F93";

    /** The numbers of pleats, of travellers of the road that busy() makes. */
    static final int BUSY_PLEATS = 4, BUSY_TRAVELLERS = 4;

    private static String test = "";
    private static int wrong = 0;

    private Edges() {
    }

    static void due(String call, long got, long want) {
        if (got != want) {
            wrong++;
            System.out.println(test + ": " + call + " answered " + got + ", due is " + want);
        }
    }

    static void tell(PleatRoads x, String text) {
        x.wipe();
        for (int i = 0; i < text.length(); i++) {
            x.write(text.charAt(i));
        }
    }

    static PleatRoads on(String text) {
        PleatRoads x = new PleatRoads();
        tell(x, text);
        if (x.road() < 0) {
            due("road() of " + text, STATE, 0);
        }
        return x;
    }

    /** A road on which nothing is as it was at first, so that each change can be seen. */
    static PleatRoads busy() {
        PleatRoads x = on("RF50F31F42F93T090T161T282T363");
        x.hear(1, 1);
        x.hear(3, 0);
        x.seed(77);
        x.step(0, true);
        x.keep(0);
        x.freeze();
        x.grease(0);
        x.step(1, false);
        x.rest(2);
        x.keep(1);
        x.step(3, false);
        tell(x, "RF71T082");
        return x;
    }

    /** The first numbers beyond what is allowed on both sides, the farthest ones, and such as a shift or a cast would wrap. */
    static int[] beyond(int least, int most) {
        return new int[] {least - 1, most + 1, Integer.MIN_VALUE, Integer.MAX_VALUE, least - 32, most + 32, most + 256,
            least + 65536};
    }

    /** A call that answers as is due, and behind which all is as on an object on which it was not made. */
    static void leavesAll(String call, Supplier<PleatRoads> made, ToLongFunction<PleatRoads> calling, long want) {
        PleatRoads touched = made.get();
        due(call, calling.applyAsLong(touched), want);
        alike("behind " + call, touched, made.get());
    }

    /** A call on the busy road that answers as is due, and behind which all is as told here, number by number. */
    static void leavesBusy(String call, ToLongFunction<PleatRoads> calling, long want) {
        leavesAll(call, Edges::busy, calling, want);
        String when = "behind " + call + " ";
        Supplier<PleatRoads> touched = () -> {
            PleatRoads x = busy();
            calling.applyAsLong(x);
            return x;
        };
        // Each on an object of its own: what one look would spoil, another one must not hide.
        busyCounts(when, touched.get());
        busyPleatsAndTravellers(when, touched.get());
        busyActs(when, touched.get());
        busySlots(when, touched.get());
        busyTextSeedAndHearsay(when, touched.get());
    }

    private static void busyCounts(String when, PleatRoads x) {
        int[] counts = {8, 4, 4, 4, 1, 5, 4, 7, 19, 6, 2};
        for (int what = 0; what <= 10; what++) {
            due(when + "count(" + what + ")", x.count(what), counts[what]);
        }
    }

    private static void busyPleatsAndTravellers(String when, PleatRoads x) {
        int[][] pleats = {{5, 0, 4, 1, 0}, {3, 1, 2, 0, 0}, {4, 2, 0, 1, 1}, {9, 3, 1, 0, 0}};
        int[][] travellers = {{1, 9, 0, 4, 4, 2}, {0, 6, 1, 4, NONE, 2}, {2, 8, 2, 8, 3, 1}, {2, 6, 3, 3, 2, 0}};
        for (int i = 0; i < 4; i++) {
            for (int what = 0; what <= 4; what++) {
                due(when + "pleat(" + i + ", " + what + ")", x.pleat(i, what), pleats[i][what]);
            }
            for (int what = 0; what <= 5; what++) {
                due(when + "traveller(" + i + ", " + what + ")", x.traveller(i, what), travellers[i][what]);
            }
        }
    }

    private static void busyActs(String when, PleatRoads x) {
        int[] winds = {22, 22, 24, 24, 24, 29};
        for (int left = 5; left >= 0; left--) {
            due(when + "undo()", x.undo(), left);
            due(when + left + " are left, wind", x.count(8), winds[5 - left]);
        }
        due(when + "undo()", x.undo(), STATE);
    }

    private static void busySlots(String when, PleatRoads x) {
        due(when + "again(1)", x.again(1), 3);
        due(when + "again(1), wind", x.count(8), 22);
        due(when + "again(0)", x.again(0), 1);
        due(when + "again(0), wind", x.count(8), 24);
    }

    private static void busyTextSeedAndHearsay(String when, PleatRoads x) {
        due(when + "who(0)", x.who(0), 11);
        due(when + "seed(77)", x.seed(77), 77);
        due(when + "road()", x.road(), 11);
        due(when + "who(0) of the new road", x.who(0), 29);
        due(when + "pleat(0, 0)", x.pleat(0, 0), 7);
        due(when + "pleat(0, 1)", x.pleat(0, 1), 1);
        due(when + "traveller(0, 1)", x.traveller(0, 1), 8);
        due(when + "traveller(0, 2)", x.traveller(0, 2), 2);
    }

    /** All that can be seen of two objects is alike; both are used up by it. */
    static void alike(String when, PleatRoads got, PleatRoads want) {
        List<String> seen = trace(got);
        List<String> wanted = trace(want);
        for (int i = 0; i < Math.max(seen.size(), wanted.size()); i++) {
            String a = i < seen.size() ? seen.get(i) : "nothing";
            String b = i < wanted.size() ? wanted.get(i) : "nothing";
            if (!a.equals(b)) {
                wrong++;
                System.out.println(test + ": " + when + " there is " + a + ", due is " + b);
                return;
            }
        }
    }

    private static List<String> trace(PleatRoads x) {
        List<String> seen = new ArrayList<>();
        look(x, seen);
        seen.add("fault() " + x.fault());
        seen.add("who(0) " + x.who(0));
        seen.add("who(1) " + x.who(1));
        long seed = x.seed(0);
        x.seed(seed);
        seen.add("the seed " + seed);
        int left = x.undo();
        for (int undone = 1; undone <= 15 && left != STATE; undone++) {
            seen.add("undo() " + left);
            glance(x, seen, "behind undo " + undone + " ");
            left = x.undo();
        }
        for (int slot = 0; slot < 2; slot++) {
            seen.add("again(" + slot + ") " + x.again(slot));
            glance(x, seen, "behind again(" + slot + ") ");
        }
        seen.add("road() " + x.road());
        look(x, seen);
        return seen;
    }

    private static void look(PleatRoads x, List<String> seen) {
        for (int what = 0; what <= 10; what++) {
            seen.add("count(" + what + ") " + x.count(what));
        }
        for (int k = 0; k < x.count(1); k++) {
            for (int what = 0; what <= 4; what++) {
                seen.add("pleat(" + k + ", " + what + ") " + x.pleat(k, what));
            }
        }
        for (int t = 0; t < x.count(2); t++) {
            for (int what = 0; what <= 5; what++) {
                seen.add("traveller(" + t + ", " + what + ") " + x.traveller(t, what));
            }
        }
    }

    private static void glance(PleatRoads x, List<String> seen, String when) {
        for (int what = 3; what <= 6; what++) {
            seen.add(when + "count(" + what + ") " + x.count(what));
        }
        for (int t = 0; t < x.count(2); t++) {
            seen.add(when + "the place of " + t + ": " + x.traveller(t, 0));
            seen.add(when + "the wind of " + t + ": " + x.traveller(t, 3));
        }
    }

    /** Runs each test of a class, and looks that each promise of its part has one. */
    static void run(Class<?> tests, int firstPromise, int lastPromise) throws ReflectiveOperationException {
        Method[] methods = tests.getDeclaredMethods();
        Arrays.sort(methods, Comparator.comparing(Method::getName));
        int[] many = new int[31];
        for (Method m : methods) {
            if (m.getName().matches("p[0-9][0-9]_.*")) {
                test = m.getName();
                many[Integer.parseInt(test.substring(1, 3))]++;
                m.setAccessible(true);
                m.invoke(null);
            }
        }
        test = tests.getName();
        int all = 0;
        for (int promise = firstPromise; promise <= lastPromise; promise++) {
            all += many[promise];
            due("promise " + promise + " has tests", many[promise] > 0 ? 1 : 0, 1);
        }
        System.out.println(wrong == 0 ? all + " edges hold" : wrong + " answers are not as due");
        if (wrong != 0) {
            System.exit(1);
        }
    }
}
