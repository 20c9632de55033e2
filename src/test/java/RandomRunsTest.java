import java.lang.reflect.InvocationTargetException;
import java.lang.reflect.Method;
import java.util.HashMap;
import java.util.Map;

/**
 * Runs of 512 calls on the class and on the naive reference, with the same answers due. A call that throws must
 * change nothing, or the calls behind it would answer otherwise. The numbers are drawn from a fixed row.
 */
public final class RandomRunsTest {
    private static final int CALLS = 512;
    private static final Map<String, Method> OWN = methodsOf(SlipwayYard.class);
    private static final Map<String, Method> DUE = methodsOf(Reference.class);

    private static long seed;
    private static int wrong = 0;
    private static int asked = 0;

    /** What a run is about: names of calls, each with how often; new makes new objects, text types a whole text. */
    private static final String NET = "work 6 set 4 waits 10 drop 2 early 5 late 5 play 4 length 3 rows 3 rowAt 6 "
            + "peak 3 leastPeak 2 meanPlay 1 delay 3 lateLength 3 claim 3 errors 1 works 1 cost 1 shortest 1 ";
    private static final String PLAIN = "work 6 set 6 waits 8 drop 1 length 2 cost 12 shortest 4 errors 2 early 1 "
            + "late 1 ";
    private static final String CLAIMS = "work 4 waits 6 delay 12 lateLength 8 claim 8 errors 1 set 2 drop 1 length 1 ";
    private static final String TEXT = "text 12 sign 2 clearText 1 errorKind 3 errorPlace 3 read 3 works 1 early 4 late 2 "
            + "rows 2 drop 1 set 1 delay 1 ";
    private static final String DAYS = "rest 2 free 10 dayOf 10 ";
    private static final String HULL = "plate 20 openEdges 10 isClosed 10 new 2 ";
    private static final String CARGO = "block 3 put 12 takeAway 3 weight 3 middle 6 trim 4 putShare 2 ";
    private static final String YARD = "slip 1 stand 14 firstStand 8 errors 1 crane 1 lift 14 nextLift 8 ";
    private static final String[] THEMES = {
        NET, NET, NET, PLAIN, PLAIN, CLAIMS, TEXT, TEXT, DAYS, HULL, CARGO, YARD, YARD,
        NET + PLAIN + TEXT + DAYS + HULL + CARGO + YARD + "clearNet 1 "};
    /** The faces of hulls that are closed: of three, four and six corners. */
    private static final long[][] SOLIDS = {
        {10203, 10402, 20403, 30401},
        {10203, 30201},
        {1020304, 1050602, 2060703, 3070804, 4080501, 8070605},
        {10203040506L, 10702L, 20703L, 30704L, 40705L, 50706L, 60701L}};

    public static void main(String[] args) {
        int runs = args.length > 0 ? Integer.parseInt(args[0]) : 1400;
        for (int run = 0; run < runs && wrong < 20; run++) {
            seed = 977L * run + 31;
            String theme = THEMES[run % THEMES.length];
            play(run, theme.trim().split(" "), theme.equals(PLAIN));
        }
        System.out.println(asked + " answers asked for, " + wrong + " wrong");
        System.exit(wrong == 0 ? 0 : 1);
    }

    private static int draw(int from, int upTo) {
        seed = seed * 6364136223846793005L + 1442695040888963407L;
        return from + (int) ((seed >>> 33) % (upTo - from + 1));
    }

    private static boolean oneIn(int many) {
        return draw(1, many) == 1;
    }

    private static Map<String, Method> methodsOf(Class<?> of) {
        Map<String, Method> map = new HashMap<>();
        for (Method method : of.getDeclaredMethods()) {
            boolean isOfFace = !java.lang.reflect.Modifier.isStatic(method.getModifiers())
                    && !java.lang.reflect.Modifier.isPrivate(method.getModifiers());
            if (isOfFace) {
                map.put(method.getName(), method);
            }
        }
        return map;
    }

    private static String answer(Method method, Object on, Object[] arguments) {
        try {
            return String.valueOf(method.invoke(on, arguments));
        } catch (InvocationTargetException e) {
            return "throws." + e.getCause().getClass().getSimpleName();
        } catch (IllegalAccessException e) {
            return "no access";
        }
    }

    /** What differs from run to run: one wait in so many of another sort, times, lags, cells, days, works, odd numbers. */
    private static final int[] SIZES = new int[7];

    private static SlipwayYard own;
    private static Reference due;
    private static int solid;
    private static int calls;

    private static void renew() {
        calls = 0;
        own = new SlipwayYard();
        due = new Reference();
        solid = draw(0, SOLIDS.length - 1);
    }

    private static void play(int run, String[] theme, boolean isPlain) {
        renew();
        SIZES[0] = isPlain ? 100000 : new int[] {1, 3, 100000}[draw(0, 2)];
        SIZES[1] = new int[] {3, 8, 60}[draw(0, 2)];
        SIZES[2] = new int[] {0, 3, 30}[draw(0, 2)];
        SIZES[3] = new int[] {4, 12, 99}[draw(0, 2)];
        SIZES[4] = new int[] {12, 60, 400}[draw(0, 2)];
        SIZES[5] = new int[] {3, 7, 16}[draw(0, 2)];
        SIZES[6] = run % 5 == 4 ? 4 : 40;
        int sum = 0;
        for (int k = 1; k < theme.length; k += 2) {
            sum += Integer.parseInt(theme[k]);
        }
        for (int call = 0; call < CALLS; call++) {
            int left = draw(1, sum);
            int at = 0;
            while (left > Integer.parseInt(theme[at + 1])) {
                left -= Integer.parseInt(theme[at + 1]);
                at += 2;
            }
            String name = theme[at];
            if (name.equals("new")) {
                renew();
            } else if (name.equals("text")) {
                typeText(run, call);
            } else if (!name.equals("work") || due.works() < SIZES[5] || oneIn(40)) {
                ask(run, call, name, argumentsOf(name));
            }
        }
    }

    private static void typeText(int run, int call) {
        if (!oneIn(4)) {
            ask(run, call, "clearText");
        }
        String text = textOfNet();
        for (int from = 0; from < text.length(); from += 8) {
            long bytes = 0;
            for (int k = from; k < Math.min(from + 8, text.length()); k++) {
                bytes = bytes << 8 | text.charAt(k);
            }
            ask(run, call, "type", bytes);
        }
        ask(run, call, "errorKind");
        ask(run, call, "errorPlace");
    }

    private static void ask(int run, int call, String name, Object... arguments) {
        String real = name.equals("sign") ? "type" : name;
        // an object is good for so many calls, and a text takes several
        if (calls == CALLS) {
            renew();
        }
        calls++;
        String want = answer(DUE.get(real), due, arguments);
        String got = answer(OWN.get(real), own, arguments);
        asked++;
        if (!got.equals(want)) {
            wrong++;
            System.out.println("run " + run + " call " + call + ": " + real + java.util.Arrays.toString(arguments)
                    + " answered " + got + ", due is " + want);
        }
    }

    /** A number of a range, at times one of its ends or beyond. */
    private static Integer within(int from, int upTo) {
        if (oneIn(SIZES[6])) {
            int[] odd = {from - 1, upTo + 1, Integer.MIN_VALUE, Integer.MAX_VALUE, from, upTo, -1, 0};
            return odd[draw(0, odd.length - 1)];
        }
        return draw(from, Math.max(from, upTo));
    }

    private static Object[] argumentsOf(String name) {
        int lastWork = Math.max(0, due.works() - 1);
        int time = SIZES[1];
        int cell = SIZES[3];
        int day = SIZES[4];
        switch (name) {
            case "sign":
                return new Object[] {(long) "a=1;b>^_<+/ 0269cpq".charAt(draw(0, 18)) * (oneIn(30) ? 256 : 1)};
            case "work":
                int longest = within(0, time);
                int shorter = draw(0, Math.max(0, Math.min(longest, oneIn(2) ? 60 : 2)));
                return new Object[] {longest, oneIn(60) ? longest + 1 : longest - shorter,
                    within(0, oneIn(3) ? 1000 : 9), within(0, 9)};
            case "set":
                int what = within(0, 3);
                return new Object[] {within(0, lastWork), what, within(0, what == 2 ? 1000 : what == 3 ? 9 : time)};
            case "waits":
                return waitOf(lastWork);
            case "drop":
                return new Object[] {within(0, 12)};
            case "early":
            case "late":
            case "play":
                return new Object[] {within(0, lastWork)};
            case "rowAt":
                return new Object[] {within(-1, 4)};
            case "cost":
                return new Object[] {oneIn(10) ? within(0, 2000)
                    : within(Math.max(0, due.length() - draw(0, 2 * time)), due.length() + 1)};
            case "delay":
                return new Object[] {within(0, lastWork), within(0, 3), within(0, oneIn(2) ? 5 : 60)};
            case "lateLength":
                return new Object[] {within(0, 15)};
            case "claim":
                return new Object[] {within(0, 3), oneIn(2)};
            case "rest":
                return new Object[] {within(0, 6)};
            case "free":
                return new Object[] {within(0, day)};
            case "dayOf":
                return new Object[] {within(0, oneIn(2) ? 2000 : day)};
            case "plate":
                return new Object[] {ring()};
            case "block":
                return new Object[] {within(1, oneIn(4) ? 9 : 3), within(1, 3), within(1, 3), within(1, 99)};
            case "put":
                return new Object[] {within(0, 6), within(0, cell), within(0, cell / 2), within(0, cell / 4)};
            case "takeAway":
                return new Object[] {within(0, 6)};
            case "middle":
                return new Object[] {within(0, 2), oneIn(2)};
            case "trim":
                return new Object[] {within(0, 99)};
            case "slip":
                return new Object[] {within(1, oneIn(2) ? 100 : 10)};
            case "stand":
                return new Object[] {within(0, 2), within(0, 9), within(1, 6), within(0, day), within(1, oneIn(2) ? 9 : 100)};
            case "firstStand":
                return new Object[] {within(0, 2), within(1, 10), within(1, oneIn(2) ? 9 : 100), oneIn(2)};
            case "crane":
                return new Object[] {within(1, oneIn(3) ? 9 : 100000)};
            case "lift":
            case "nextLift":
                return new Object[] {within(0, 3), within(0, day), within(0, 99), within(1, oneIn(3) ? 100000 : 9)};
            default:
                return new Object[0];
        }
    }

    private static Object[] waitOf(int lastWork) {
        int one = draw(0, lastWork);
        int two = draw(0, lastWork);
        boolean isForward = !oneIn(8);
        int sort = oneIn(SIZES[0]) ? within(0, 3) : 0;
        return new Object[] {isForward ? Math.max(one, two) : within(0, lastWork),
            isForward ? Math.min(one, two) : within(0, lastWork), sort, within(0, SIZES[2])};
    }

    /** A text of a net, often with one sign too much, too few or another one. */
    private static String textOfNet() {
        StringBuilder made = new StringBuilder();
        int works = oneIn(10) ? draw(1, 17) : draw(1, 5);
        int waits = oneIn(8) ? 42 : draw(0, 6);
        for (int work = 0; work < works; work++) {
            int time = draw(0, oneIn(30) ? 65 : SIZES[1]);
            made.append(work == 0 ? "" : ";").append((char) ('a' + work)).append('=').append(time);
            made.append(oneIn(3) ? "/" + draw(0, oneIn(20) ? 60 : time) : "");
        }
        for (int wait = 0; wait < waits && made.length() < 190; wait++) {
            int one = draw(0, works - 1);
            int two = draw(0, works - 1);
            if (one != two || oneIn(20)) {
                boolean isTurned = oneIn(60);
                made.append(';').append((char) ('a' + (isTurned ? Math.max(one, two) : Math.min(one, two))));
                made.append(">^_<".charAt(draw(0, 3)));
                made.append((char) ('a' + (isTurned ? Math.min(one, two) : Math.max(one, two))));
                made.append(oneIn(3) && waits < 40 ? "+" + draw(0, oneIn(20) ? 40 : 30) : "");
            }
        }
        String signs = " 0123456789abcpq=/;+>^_<\t\u00ff";
        for (int odd = draw(-1, 1); odd > 0; odd--) {
            int at = draw(0, made.length() - 1);
            char sign = signs.charAt(oneIn(2) ? 0 : draw(0, signs.length() - 1));
            if (oneIn(2)) {
                made.insert(at, sign);
            } else if (oneIn(2)) {
                made.setCharAt(at, sign);
            } else {
                made.deleteCharAt(at);
            }
        }
        return made.toString();
    }

    private static Long ring() {
        if (oneIn(12)) {
            long[] odd = {0, -1, -10203, 102, 1020304050607L, Long.MAX_VALUE, Long.MIN_VALUE, 10231, 102030405, 313029,
                302928, 123456789012L, 1000203, 10200, 10201, 10203040502L};
            return odd[draw(0, odd.length - 1)];
        }
        if (!oneIn(10)) {
            return SOLIDS[solid][draw(0, SOLIDS[solid].length - 1)];
        }
        long ring = draw(1, 4);
        int size = draw(3, 6);
        for (int k = 1; k < size; k++) {
            ring = ring * 100 + draw(0, oneIn(30) ? 31 : 9);
        }
        return ring;
    }
}
