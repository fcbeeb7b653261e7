import java.lang.reflect.InvocationTargetException;
import java.lang.reflect.Method;
import java.lang.reflect.Modifier;
import java.util.Arrays;
import java.util.LinkedHashMap;
import java.util.Map;
import java.util.TreeMap;

/**
 * In plans that are empty, full, broken or carried out, each method is called with each set of numbers at the
 * edges of what is allowed; the oracle tells what is due, and a call that throws changes nothing.
 */
public final class EdgeGridTest {
    private static final int FAR_BELOW = Integer.MIN_VALUE;
    private static final int FAR_ABOVE = Integer.MAX_VALUE;
    private static final Map<String, Method> OURS = new TreeMap<>();
    private static final Map<String, Method> THEIRS = new TreeMap<>();
    private static final Map<String, String> PLANS = new LinkedHashMap<>();
    private static final Map<String, int[][]> NUMBERS = new LinkedHashMap<>();

    private static Simplespan x;
    private static Oracle oracle;

    public static void main(String[] args) {
        findMethods();
        namePlans();
        nameNumbers();
        Check.same("all methods have numbers", OURS.keySet().toString(), new TreeMap<>(NUMBERS).keySet().toString());
        for (String plan : PLANS.keySet()) {
            for (String name : NUMBERS.keySet()) {
                callAll(plan, name);
            }
        }
        Check.end();
    }

    private static void findMethods() {
        for (Method method : Simplespan.class.getDeclaredMethods()) {
            if (Modifier.isPublic(method.getModifiers())) {
                OURS.put(method.getName(), method);
            }
        }
        for (Method method : Oracle.class.getDeclaredMethods()) {
            if (OURS.containsKey(method.getName()) && !Modifier.isPrivate(method.getModifiers())) {
                method.setAccessible(true);
                THEIRS.put(method.getName(), method);
            }
        }
    }

    /** The calls that make each plan; a number behind * tells how often a call is made. */
    private static void namePlans() {
        String three = "addEvent*6;addSpan 0 1 2 9;addSpan 2 3 1 200;addSpan 4 5 7 7;";
        String told = "addEvent*4;addSpan 0 1 3 10;bound 2 1 1 1;bound 1 2 6 1;bound 3 0 -4 0;bound 0 3 9 -2;";
        PLANS.put("new", "");
        PLANS.put("events", "addEvent*9");
        PLANS.put("bounds", "addEvent*2;bound 0 1 500 0*38;bound 1 0 -500 0;bound 1 2 3 4");
        PLANS.put("one bound left", "addEvent*2;bound 0 1 500 0*38;dropBound 37;bound 2 0 0 0");
        PLANS.put("spans", three);
        PLANS.put("spans, carried out", three + "start 2;pass 3;end 0;end 1;start 4");
        PLANS.put("not consistent", "addEvent*3;bound 0 1 5 0;bound 1 0 -6 0;addSpan 0 2 1 5;addActivity 0 1 9");
        PLANS.put("not as it is seen", "addEvent*3;addSpan 0 1 3 10;bound 0 1 9 0;addActivity 0 1 9");
        PLANS.put("told", told);
        PLANS.put("observed", told + "observe 1 1;observe 2 0;play 1");
        PLANS.put("chosen", told + "choose;play 0;addEvent");
        PLANS.put("running", told + "choose;pass 4;start 3");
        PLANS.put("at its end", told + "choose;pass 10");
        PLANS.put("ended", told + "choose;pass 4;start 3;end 0");
        PLANS.put("late", "addEvent*2;pass 200*2;pass 199;addSpan 0 1 1 200");
        PLANS.put("at 600", "addEvent*2;pass 200*3");
        PLANS.put("activities", "addEvent*3;bound 1 0 -5 0;bound 2 0 0 0;bound 3 2 -4 0;addActivity 0 1 5*2;"
            + "addActivity 2 3 6*3;setCost 0 0 99 99;setCost 1 999 99 0");
        PLANS.put("frames", "addEvent;open*4;addEvent;bound 0 1 4 0;setCapacity 0");
        PLANS.put("a frame back", told + "open;choose;play 1;pass 4;start 3;takeBack");
    }

    private static void nameNumbers() {
        int[] event = {FAR_BELOW, -1, 0, 1, 2, 3, 4, 9, 10, FAR_ABOVE};
        int[] few = {-1, 0, 1, 3, 7};
        int[] picks = {FAR_BELOW, -1, 0, 1, 2, 7, 8, FAR_ABOVE};
        int[] sums = {FAR_BELOW, -1, 0, 1, 2, 14, 15, 16, FAR_ABOVE};
        int[] minute = {FAR_BELOW, -1, 0, 4, 5, 999, 1000, FAR_ABOVE};
        int[] label = {FAR_BELOW, -1, 0, 1, 2, 4, 5, FAR_ABOVE};
        int[] rate = {-1, 0, 99, 100};
        int[] length = {0, 1, 200, 201};
        for (String name : new String[] {"addEvent", "choose", "isConsistent", "conflictSize", "isWeak", "isStrong",
            "isSeen", "rounds", "isKept", "now", "peak", "peakSet", "level", "cost", "open", "takeBack", "heldShare",
            "meanSlack"}) {
            NUMBERS.put(name, new int[][] {});
        }
        for (String name : new String[] {"playedAt", "reason", "lowest", "uppermost", "start", "startedAt",
            "firstTime", "end", "conflictAt"}) {
            NUMBERS.put(name, new int[][] {event});
        }
        for (String name : new String[] {"distance", "distanceByRounds", "isDirect", "reduced", "waitFor", "slack"}) {
            NUMBERS.put(name, new int[][] {event, event});
        }
        NUMBERS.put("bound", new int[][] {few, few, {-501, -500, 0, 500, 501}, {-5, -4, 0, 4, 5}});
        NUMBERS.put("dropBound", new int[][] {{FAR_BELOW, -1, 0, 1, 36, 37, 38, 39, 40, FAR_ABOVE}});
        NUMBERS.put("addSpan", new int[][] {few, few, length, length});
        NUMBERS.put("observe", new int[][] {label, {0, 1}});
        NUMBERS.put("labelOf", new int[][] {label});
        NUMBERS.put("isPossible", new int[][] {sums, sums});
        NUMBERS.put("play", new int[][] {picks});
        NUMBERS.put("failure", new int[][] {picks});
        NUMBERS.put("pass", new int[][] {{FAR_BELOW, 0, 1, 5, 6, 7, 199, 200, 201, FAR_ABOVE}});
        NUMBERS.put("addActivity", new int[][] {few, few, {FAR_BELOW, 0, 1, 9, 10, FAR_ABOVE}});
        NUMBERS.put("setCapacity", new int[][] {{FAR_BELOW, -1, 0, 40, 41, FAR_ABOVE}});
        NUMBERS.put("use", new int[][] {minute});
        NUMBERS.put("setCost", new int[][] {{-1, 0, 1, 7}, {-1, 0, 999, 1000}, rate, rate});
        NUMBERS.put("costOf", new int[][] {event, minute});
    }

    private static void callAll(String plan, String name) {
        make(plan);
        int[][] numbers = NUMBERS.get(name);
        int[] at = new int[numbers.length];
        String before = State.of(x);
        do {
            Object[] row = row(name, numbers, at);
            String what = plan + ": " + name + Arrays.toString(row);
            String want = told(THEIRS.get(name), oracle, row);
            String got = told(OURS.get(name), x, row);
            Check.same(what, want, got);
            String behind = State.of(x);
            if (!behind.equals(before)) {
                Check.same(what + " throws and changes something", "false", String.valueOf(got.startsWith("throws.")));
                make(plan);
            }
        } while (goOn(numbers, at));
    }

    private static boolean goOn(int[][] numbers, int[] at) {
        for (int i = 0; i < at.length; i++) {
            at[i]++;
            if (at[i] < numbers[i].length) {
                return true;
            }
            at[i] = 0;
        }
        return false;
    }

    private static Object[] row(String name, int[][] numbers, int[] at) {
        Object[] row = new Object[at.length];
        for (int i = 0; i < at.length; i++) {
            boolean isTold = name.equals("observe") && i == 1;
            row[i] = isTold ? (Object) (numbers[i][at[i]] == 1) : (Object) numbers[i][at[i]];
        }
        return row;
    }

    private static void make(String plan) {
        x = new Simplespan();
        oracle = new Oracle();
        for (String call : PLANS.get(plan).split(";")) {
            String[] parts = call.split("\\*");
            int times = parts.length > 1 ? Integer.parseInt(parts[1]) : 1;
            for (int i = 0; i < times && !call.isEmpty(); i++) {
                makeCall(plan, parts[0].split(" "));
            }
        }
    }

    private static void makeCall(String plan, String[] words) {
        int[][] numbers = new int[words.length - 1][1];
        for (int i = 1; i < words.length; i++) {
            numbers[i - 1][0] = Integer.parseInt(words[i]);
        }
        Object[] row = row(words[0], numbers, new int[numbers.length]);
        String got = told(OURS.get(words[0]), x, row);
        Check.same(plan + " is made", told(THEIRS.get(words[0]), oracle, row), got);
        Check.same(plan + " is made by " + words[0] + ", which answers " + got, "false", "" + got.startsWith("throws."));
    }

    private static String told(Method method, Object object, Object[] row) {
        try {
            return String.valueOf(method.invoke(object, row));
        } catch (InvocationTargetException e) {
            return "throws." + e.getCause().getClass().getSimpleName();
        } catch (IllegalAccessException e) {
            return "no access";
        }
    }
}
