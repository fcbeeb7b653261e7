import java.lang.reflect.InvocationTargetException;
import java.lang.reflect.Method;
import java.util.ArrayList;
import java.util.List;
import java.util.Map;
import java.util.TreeMap;

/** Long runs of calls by a fixed row of numbers, each answered by the class and by the oracle. */
public final class AgainstOracleTest {
    private static final int CALLS = 512;
    /** So many runs are watched for refused calls that change something; that takes time. */
    private static final int WATCHED = 60;
    private static long seed;

    private static int below(int n) {
        seed = seed * 6364136223846793005L + 1442695040888963407L;
        return (int) ((seed >>> 33) % n);
    }

    private static int from(int least, int greatest) {
        return least + below(greatest - least + 1);
    }

    private static boolean oneIn(int n) {
        return below(n) == 0;
    }

    /** One run: its objects, the hidden times round which its bounds are told, and its calls so far. */
    private static final class Run {
        final Simplespan x = new Simplespan();
        final Oracle oracle = new Oracle();
        final int[] hidden = new int[10];
        final StringBuilder calls = new StringBuilder();
        final int tightness = from(1, 60);
        final boolean isLoose = oneIn(2);
        final boolean isWatched;
        int events = 1;
        boolean isRight = true;

        Run(boolean isWatched) {
            this.isWatched = isWatched;
        }
    }

    private static final Map<String, Method> OURS = new TreeMap<>();
    private static final Map<String, Method> THEIRS = new TreeMap<>();
    private static final Map<String, Integer> ANSWERS = new TreeMap<>();

    public static void main(String[] args) {
        int runs = 1500;
        for (int i = 0; i + 1 < args.length; i++) {
            if (args[i].equals("runs")) {
                runs = Integer.parseInt(args[i + 1]);
            }
        }
        for (Method method : Simplespan.class.getDeclaredMethods()) {
            if (java.lang.reflect.Modifier.isPublic(method.getModifiers())) {
                OURS.put(method.getName(), method);
            }
        }
        for (Method method : Oracle.class.getDeclaredMethods()) {
            if (!java.lang.reflect.Modifier.isPrivate(method.getModifiers())) {
                THEIRS.put(method.getName(), method);
            }
        }
        for (int run = 0; run < runs; run++) {
            seed = 77 + 1000003L * run;
            below(2);
            go(run);
        }
        for (String name : OURS.keySet()) {
            Check.same("calls of " + name + " that answered", "true", String.valueOf(ANSWERS.containsKey(name)));
        }
        for (String rare : new String[] {"failure b", "failure m", "failure -", "reason w", "reason b", "reason e",
            "reason l", "reason n", "reason s", "reason -", "isSeen true", "isStrong true", "isWeak true", "level 2",
            "isKept false", "rounds 3", "conflictSize 3", "rounds throws.", "play throws.UnsupportedOperationException"}) {
            boolean was = ANSWERS.containsKey(rare) || rare.endsWith(".");
            Check.same("the answer " + rare + " came", "true", String.valueOf(was));
        }
        if (System.getenv("ORACLE_COUNTS") != null) {
            ANSWERS.forEach((k, v) -> System.out.println(v + " " + k));
        }
        Check.end();
    }

    private static void go(int number) {
        Run run = new Run(number < WATCHED);
        int events = from(2, 9);
        for (int i = 0; i < events; i++) {
            addEvent(run);
        }
        int spans = from(0, 3);
        for (int i = 0; i < spans; i++) {
            call(run, "addSpan", spanArguments(run));
        }
        int bounds = from(0, 25);
        for (int i = 0; i < bounds; i++) {
            call(run, "bound", boundArguments(run));
        }
        List<String> names = new ArrayList<>(OURS.keySet());
        int made = events + spans + bounds;
        while (made < CALLS && run.isRight) {
            String name = names.get(below(names.size()));
            if (isTooSoon(name, made)) {
                continue;
            }
            if (name.equals("addEvent")) {
                addEvent(run);
            } else {
                call(run, name, arguments(run, name));
            }
            made++;
        }
        if (!run.isRight) {
            System.out.println("run " + number + ":\n" + run.calls);
        }
    }

    /** Calls that soon spoil a plan come more seldom. */
    private static boolean isTooSoon(String name, int made) {
        switch (name) {
            case "bound":
            case "level":
                return !oneIn(3);
            case "addEvent":
            case "observe":
                return !oneIn(6);
            case "start":
            case "end":
                return made < 100;
            case "pass":
                return made < 60 || !oneIn(2);
            default:
                return false;
        }
    }

    private static void addEvent(Run run) {
        String answer = call(run, "addEvent");
        if (!answer.startsWith("throws")) {
            int event = Integer.parseInt(answer);
            run.events = event + 1;
            run.hidden[event] = run.isLoose ? from(0, 80) : run.hidden[event - 1] + from(0, 30);
        }
    }

    private static Object[] spanArguments(Run run) {
        int from = below(Math.max(1, run.events - 1));
        int to = oneIn(12) ? anyEvent(run) : Math.min(run.events - 1, from + 1 + below(3));
        int length = Math.max(1, run.hidden[Math.max(0, Math.min(9, to))] - run.hidden[from]);
        int least = oneIn(30) ? from(-1, 202) : Math.max(1, length - below(1 + run.tightness / 4));
        int greatest = oneIn(30) ? from(-1, 202) : Math.min(200, length + below(1 + run.tightness / 4));
        return new Object[] {from, to, least, greatest};
    }

    private static Object[] boundArguments(Run run) {
        int from = anyEvent(run);
        int to = anyEvent(run);
        int most = from(-501, 501);
        if (from >= 0 && from < 10 && to >= 0 && to < 10 && !oneIn(40)) {
            most = run.hidden[to] - run.hidden[from] + from(oneIn(8) ? -8 : 0, run.tightness);
        }
        int label = oneIn(3) ? from(-4, 4) : 0;
        return new Object[] {from, to, most, oneIn(60) ? from(-6, 6) : label};
    }

    private static int anyEvent(Run run) {
        return oneIn(25) ? from(-1, 10) : below(run.events);
    }

    private static Object[] arguments(Run run, String name) {
        switch (name) {
            case "bound":
                return boundArguments(run);
            case "addSpan":
                return spanArguments(run);
            case "observe":
                return new Object[] {from(0, 5), oneIn(2)};
            case "isPossible":
                int trues = from(-1, 16);
                return new Object[] {trues, oneIn(4) ? from(-1, 16) : (15 & ~trues & below(16))};
            case "pass":
                return new Object[] {oneIn(10) ? from(-1, 202) : from(1, 9)};
            case "play":
            case "failure":
                return new Object[] {oneIn(10) ? from(-1, 9) : below(8)};
            case "use":
                return new Object[] {oneIn(10) ? from(-2, 1001) : below(100)};
            case "addActivity":
                return new Object[] {anyEvent(run), anyEvent(run), oneIn(10) ? from(0, 10) : from(3, 9)};
            case "setCapacity":
                return new Object[] {oneIn(10) ? from(-1, 41) : from(2, 16)};
            case "setCost":
                return new Object[] {anyEvent(run), oneIn(5) ? from(-2, 1001) : below(90), from(-1, 100), from(0, 99)};
            case "costOf":
                return new Object[] {anyEvent(run), oneIn(10) ? from(-2, 1001) : below(100)};
            default:
                return plainArguments(run, OURS.get(name).getParameterTypes().length, name);
        }
    }

    private static Object[] plainArguments(Run run, int count, String name) {
        Object[] row = new Object[count];
        for (int i = 0; i < count; i++) {
            row[i] = anyEvent(run);
        }
        if (name.equals("waitFor")) {
            row[1] = from(oneIn(20) ? -1 : 0, 3);
        } else if (name.equals("end") || name.equals("labelOf") || name.equals("conflictAt")) {
            row[0] = from(oneIn(20) ? -1 : 0, 5);
        } else if (name.equals("slack")) {
            row[0] = from(oneIn(20) ? -1 : 0, 4);
            row[1] = from(oneIn(20) ? -1 : 0, 5);
        } else if (name.equals("dropBound")) {
            row[0] = from(-1, 40);
        }
        return row;
    }

    private static String call(Run run, String name, Object... row) {
        if (!run.isRight) {
            return "throws";
        }
        String want = told(THEIRS.get(name), run.oracle, row);
        String before = run.isWatched ? State.of(run.x) : "";
        String got = told(OURS.get(name), run.x, row);
        if (run.isWatched && got.startsWith("throws.")) {
            Check.same(name + " throws and changes nothing", before, State.of(run.x));
        }
        String text = name + java.util.Arrays.toString(row);
        run.calls.append("  ").append(text).append(" = ").append(want).append('\n');
        run.isRight = want.equals(got);
        Check.same(text, want, got);
        ANSWERS.merge(name + " " + want, 1, Integer::sum);
        if (!want.startsWith("throws")) {
            ANSWERS.merge(name, 1, Integer::sum);
        }
        return want;
    }

    private static String told(Method method, Object object, Object[] row) {
        try {
            method.setAccessible(true);
            return String.valueOf(method.invoke(object, row));
        } catch (InvocationTargetException e) {
            return "throws." + e.getCause().getClass().getSimpleName();
        } catch (IllegalAccessException e) {
            return "no access";
        }
    }
}
