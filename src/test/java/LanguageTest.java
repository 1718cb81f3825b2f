import java.lang.reflect.Constructor;
import java.lang.reflect.Field;
import java.lang.reflect.Method;
import java.lang.reflect.Modifier;
import java.nio.file.Files;
import java.nio.file.Path;
import java.util.Set;
import java.util.TreeSet;
import java.util.regex.Matcher;
import java.util.regex.Pattern;

/** The face of the class as the document has it, the rules that a text search can see, and wild arguments. */
public final class LanguageTest {
    private static final String FACE = "int write(int) int wipe() int fault() int road() int pleat(int,int)"
            + " int traveller(int,int) int step(int,boolean) int rest(int) int grease(int) int freeze() int thaw()"
            + " int undo() int reach(int) int fewest(int,int) int wants(int,int) int shutIn() int meet(int,int)"
            + " int judge(int,long) int hear(int,int) int unhear() int who(int) int share(int,boolean)"
            + " int rests(int,int,int) int icy(int,int,int,boolean) long seed(long) int summers(int) int keep(int)"
            + " int again(int) int count(int)";
    private static int wrong = 0;

    private static void check(boolean holds, String what) {
        if (!holds) {
            wrong++;
            System.out.println(what);
        }
    }

    private static void face() {
        check(Modifier.isPublic(PleatRoads.class.getModifiers()), "the class is not public");
        check(Modifier.isFinal(PleatRoads.class.getModifiers()), "the class is not final");
        Set<String> found = new TreeSet<>();
        for (Method m : PleatRoads.class.getDeclaredMethods()) {
            StringBuilder b = new StringBuilder(m.getReturnType() + " " + m.getName() + "(");
            for (Class<?> p : m.getParameterTypes()) {
                b.append(b.charAt(b.length() - 1) == '(' ? "" : ",").append(p);
            }
            if (Modifier.isPublic(m.getModifiers())) {
                found.add(b.append(')').toString());
            } else {
                check(Modifier.isPrivate(m.getModifiers()), "neither public nor private: " + b);
            }
        }
        Set<String> due = new TreeSet<>(Set.of(FACE.split(" (?=int |long )(?<!\\()")));
        check(found.equals(due), "the face is " + found);
        Set<String> constants = new TreeSet<>();
        for (Field f : PleatRoads.class.getDeclaredFields()) {
            if (Modifier.isPublic(f.getModifiers())) {
                constants.add(f.getName());
            } else {
                check(Modifier.isPrivate(f.getModifiers()), "neither public nor private: " + f);
            }
        }
        check(constants.equals(Set.of("UNKNOWN", "OUTSIDE", "STATE", "FULL", "NONE")), "the constants are " + constants);
        Constructor<?>[] made = PleatRoads.class.getDeclaredConstructors();
        check(made.length == 1 && made[0].getParameterCount() == 0, "not one constructor without arguments");
        inside();
    }

    private static void inside() {
        Set<String> names = new TreeSet<>();
        for (Method m : PleatRoads.class.getMethods()) {
            names.add(m.getName());
        }
        Class<?>[] classes = PleatRoads.class.getDeclaredClasses();
        check(classes.length <= 11, "too many classes");
        for (Class<?> c : classes) {
            check(Modifier.isStatic(c.getModifiers()) && !Modifier.isPublic(c.getModifiers()), c + " is not as rule 1 has it");
            check(c.getDeclaredFields().length <= 24, c + " has too many fields");
            for (Method m : c.getDeclaredMethods()) {
                check(!names.contains(m.getName()), m + " bears the name of a public method");
                check(m.getParameterCount() <= 7, m + " takes too much");
            }
            for (Field f : c.getDeclaredFields()) {
                check(!Modifier.isStatic(f.getModifiers()) || Modifier.isFinal(f.getModifiers()), f + " is static, not final");
            }
        }
    }

    private static void source() throws Exception {
        String text = Files.readString(Path.of("src/main/java/PleatRoads.java"));
        String code = text.replaceAll("(?s)/\\*.*?\\*/", "").replaceAll("//[^\n]*", "");
        Matcher banned = Pattern.compile("\\b(throw|throws|try|catch|synchronized|assert|package|while|new Object|System\\.(?!arraycopy)\\w+"
                + "|\\w+Exact|Math\\.random|Thread|String\\b|var)\\b|->|::|static\\s*\\{").matcher(code);
        while (banned.find()) {
            check(false, "the source has " + banned.group());
        }
        Matcher imports = Pattern.compile("import ([^;]*);").matcher(code);
        while (imports.find()) {
            check(imports.group(1).equals("java.util.Arrays"), "the source has " + imports.group());
        }
        for (int i = 0; i < text.length(); i++) {
            check(text.charAt(i) < 128, "a sign beyond 127 at " + i);
        }
    }

    /** Rule 11 on the length of methods; and no call makes an object, so that every run has room enough. */
    private static void methods() throws Exception {
        Pattern header = Pattern.compile("( +)(?:(?:public|private|static|final) )*(?:\\w+(?:\\[\\])? )?(\\w+)\\(.*\\) \\{");
        String end = null;
        String name = "";
        int begin = 0;
        int found = 0;
        String[] lines = Files.readString(Path.of("src/main/java/PleatRoads.java")).split("\n");
        for (int i = 0; i < lines.length; i++) {
            Matcher m = header.matcher(lines[i]);
            if (end == null && m.matches()) {
                end = m.group(1) + "}";
                name = m.group(2);
                begin = i;
                found++;
            } else if (lines[i].equals(end)) {
                check(i - begin < 60, name + " is " + (i - begin) + " lines long");
                end = null;
            } else if (end != null && lines[i].contains("new ")) {
                check(Character.isUpperCase(name.charAt(0)), name + " makes an object");
            }
        }
        check(end == null && found > 90, "only " + found + " methods were seen");
    }

    private static final int[] WILD = {Integer.MIN_VALUE, -65536, -33, -32, -10, -9, -2, -1, 0, 1, 2, 3, 4, 5, 6, 7, 9, 10,
        11, 31, 32, 33, 63, 64, 255, 256, 65536, Integer.MAX_VALUE};
    private static final long[] WILD_LONGS = {Long.MIN_VALUE, -1, 0, 1, 99, 999, 1000, 999999999999L, 1000000000000L, Long.MAX_VALUE};

    private static void wildCalls(PleatRoads x) {
        for (int a : WILD) {
            x.step(a, true);
            x.step(a, false);
            x.rest(a);
            x.grease(a);
            x.reach(a);
            x.who(a);
            x.share(a, true);
            x.share(a, false);
            x.summers(a);
            x.keep(a);
            x.again(a);
            x.count(a);
            x.freeze();
            for (long b : WILD_LONGS) {
                x.judge(a, b);
                x.seed(b);
            }
            for (int b : WILD) {
                x.pleat(a, b);
                x.traveller(a, b);
                x.fewest(a, b);
                x.wants(a, b);
                x.meet(a, b);
                x.hear(a, b);
                x.rests(a, b, a);
                x.rests(a, b, 1);
                x.icy(a, b, b, true);
                x.icy(a, b, 1, false);
            }
            x.thaw();
            x.undo();
            x.unhear();
            x.shutIn();
        }
    }

    private static void wild() {
        String[] texts = {"", "R", "RT010", "RF93", "RF93T013",
            "RF10F22F93F31F10F20F33F52F90F11T093T551T992T383T010", "RF93F93F93F93F93F93F93F93F93F93T013T911T912T913T993"};
        for (String text : texts) {
            PleatRoads x = new PleatRoads();
            for (int i = 0; i < text.length(); i++) {
                x.write(text.charAt(i));
            }
            x.road();
            wildCalls(x);
            for (int letter : WILD) {
                x.write(letter);
                x.fault();
                x.road();
            }
            x.wipe();
        }
    }

    public static void main(String[] args) throws Exception {
        face();
        source();
        methods();
        wild();
        System.out.println(wrong == 0 ? "the face and the rules are kept" : wrong + " rules are broken");
        if (wrong != 0) {
            System.exit(1);
        }
    }
}
