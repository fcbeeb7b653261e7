import java.lang.reflect.Method;
import java.lang.reflect.Modifier;
import java.util.Set;
import java.util.TreeSet;
import java.util.function.Function;

/**
 * Each call of the face in plans of ten kinds: it answers wherever the document names no exception for the kind,
 * and throws the one that it names elsewhere.
 */
public final class EachStateTest {
    private static final String[] KINDS = {"plain", "not consistent", "not seen", "carried out", "in a frame",
        "observed", "spans", "played out", "all of these", "all of these, not consistent"};
    private static final Set<String> NAMES = new TreeSet<>();

    public static void main(String[] args) {
        told();
        net();
        control();
        played();
        carriedOut();
        resource();
        rest();
        allMethods();
        Check.end();
    }

    /** The event 1 comes 10 to 20 minutes behind the event 0, the event 2 10 to 30, the event 8 at least 5 behind 7. */
    private static Simplespan plain() {
        Simplespan x = Check.plan(8);
        x.bound(0, 1, 20, 0);
        x.bound(1, 0, -10, 0);
        x.bound(0, 2, 30, 0);
        x.bound(2, 0, -10, 0);
        x.bound(7, 8, 500, 4);
        x.bound(7, 8, 499, 4);
        x.bound(7, 0, 0, 0);
        x.bound(8, 7, -5, 0);
        x.addActivity(0, 1, 5);
        x.addActivity(7, 8, 5);
        x.setCost(1, 15, 2, 3);
        return x;
    }

    private static Simplespan make(int kind) {
        Simplespan x = plain();
        switch (kind) {
            case 1:
                x.choose();
                x.bound(0, 1, 5, 1);
                break;
            case 2:
                x.addSpan(0, 3, 3, 10);
                x.bound(0, 3, 9, 0);
                x.pass(4);
                break;
            case 3:
                x.addSpan(3, 4, 2, 6);
                x.start(3);
                x.pass(4);
                x.end(0);
                break;
            case 4:
                x.open();
                break;
            case 5:
                observeAll(x);
                break;
            case 6:
                threeSpans(x);
                x.pass(2);
                break;
            case 7:
                threeSpans(x);
                x.play(0);
                x.pass(2);
                break;
            case 8:
                all(x);
                break;
            case 9:
                all(x);
                x.bound(0, 1, 5, 0);
                break;
            default:
                break;
        }
        return x;
    }

    /** Played out, observed, carried out in part, and in a frame. */
    private static void all(Simplespan x) {
        threeSpans(x);
        x.play(0);
        observeAll(x);
        x.pass(2);
        x.end(0);
        x.start(5);
        x.open();
    }

    private static void observeAll(Simplespan x) {
        for (int label = 1; label <= 4; label++) {
            x.observe(label, label == 2);
        }
    }

    private static void threeSpans(Simplespan x) {
        x.addSpan(0, 3, 2, 5);
        x.addSpan(0, 4, 2, 6);
        x.addSpan(5, 6, 2, 7);
    }

    /** The answers of a call, or the first letters of what it throws, by kinds. */
    private static void each(String call, String answers, Function<Simplespan, Object> asked) {
        NAMES.add(call.substring(0, call.indexOf('(')));
        String[] due = answers.trim().split(" +");
        Check.same(call + ": kinds", "" + KINDS.length, "" + due.length);
        for (int kind = 0; kind < due.length; kind++) {
            Simplespan x = make(kind);
            String got = Check.told(() -> asked.apply(x));
            Check.same(call + ", " + KINDS[kind], due[kind], got.replaceAll("throws\\.([A-Z])[a-z]+([A-Z]).*", "$1$2"));
        }
    }

    private static void told() {
        each("addEvent()", "9 9 9 9 9 9 9 9 9 9", x -> x.addEvent());
        each("bound(7, 8, 0, 0)", "8 9 9 8 8 8 8 8 8 9", x -> x.bound(7, 8, 0, 0));
        each("dropBound(0)", "5 8 6 5 5 5 5 5 5 6", x -> x.dropBound(0));
        each("addSpan(7, 8, 1, 2)", "0 0 1 1 0 0 IS IS IS IS", x -> x.addSpan(7, 8, 1, 2));
        each("observe(4, true)", "8 9 9 8 8 IS 8 8 IS IS", x -> x.observe(4, true));
        each("choose()", "4 3 4 4 4 1 4 4 1 UO", x -> x.choose());
        each("labelOf(2)", "o T o o o t o o t t", x -> x.labelOf(2));
        each("isPossible(1, 0)", "true false true true true true true true true false", x -> x.isPossible(1, 0));
        each("heldShare()", "0.75 1.0 0.7777778 0.75 0.75 0.75 0.75 0.75 0.75 0.7777778", x -> x.heldShare());
    }

    private static void net() {
        each("isConsistent()", "true false true true true true true true true false", x -> x.isConsistent());
        each("distance(0, 1)", "20 IS 20 20 20 20 20 20 20 IS", x -> x.distance(0, 1));
        each("distanceByRounds(0, 1)", "20 IS 20 20 20 20 20 20 20 IS", x -> x.distanceByRounds(0, 1));
        each("isDirect(0, 1)", "true IS true false true true true true false IS", x -> x.isDirect(0, 1));
        each("conflictSize()", "IS 2 IS IS IS IS IS IS IS 2", x -> x.conflictSize());
        each("conflictAt(0)", "IS 1 IS IS IS IS IS IS IS 1", x -> x.conflictAt(0));
        each("meanSlack()", "15.0 IS 12.0 7.5 15.0 15.0 9.25 9.25 6.5 IS", x -> x.meanSlack());
    }

    private static void control() {
        each("isWeak()", "true false false true true true true true true false", x -> x.isWeak());
        each("isStrong()", "true false false true true true true true true false", x -> x.isStrong());
        each("isSeen()", "true false false true true true true true true false", x -> x.isSeen());
        each("rounds()", "0 0 1 0 0 0 1 1 1 0", x -> x.rounds());
        each("reduced(0, 1)", "20 IS IS 20 20 20 20 20 20 IS", x -> x.reduced(0, 1));
        each("waitFor(4, 1)", "NS NS NS NS NS NS 6 6 6 IS", x -> x.waitFor(4, 1));
        each("waitFor(3, 0)", "NS NS IS UO NS NS 5 5 UO IS", x -> x.waitFor(3, 0));
    }

    private static void played() {
        each("play(0)", "10 IS IS IS 10 10 10 10 IS IS", x -> x.play(0));
        each("failure(0)", "- IS IS IS - - - - IS IS", x -> x.failure(0));
        each("isKept()", "true IS IS IS true true true true IS IS", x -> x.isKept());
        each("playedAt(1)", "IS IS IS IS IS IS IS 10 10 10", x -> x.playedAt(1));
    }

    private static void carriedOut() {
        each("reason(7)", "- IS IS - - - - - - IS", x -> x.reason(7));
        each("lowest(1)", "10 IS IS 10 10 10 10 10 10 IS", x -> x.lowest(1));
        each("uppermost(1)", "20 IS IS 20 20 20 20 20 20 IS", x -> x.uppermost(1));
        each("start(7)", "0 IS IS 4 0 0 2 2 2 IS", x -> x.start(7));
        each("end(0)", "NS NS 4 IS NS NS 2 2 IS IS", x -> x.end(0));
        each("end(1)", "NS NS NS NS NS NS 2 2 2 2", x -> x.end(1));
        each("pass(3)", "3 3 7 7 3 3 5 5 5 5", x -> x.pass(3));
        each("now()", "0 0 4 4 0 0 2 2 2 2", x -> x.now());
        each("startedAt(0)", "0 0 0 0 0 0 0 0 0 0", x -> x.startedAt(0));
        each("startedAt(3)", "IS IS IS 0 IS IS IS IS 2 2", x -> x.startedAt(3));
    }

    private static void resource() {
        each("addActivity(7, 8, 1)", "2 2 2 2 2 2 2 2 2 2", x -> x.addActivity(7, 8, 1));
        each("setCapacity(3)", "9 9 9 9 9 9 9 9 9 9", x -> x.setCapacity(3));
        each("firstTime(1)", "10 IS 10 10 10 10 10 10 10 IS", x -> x.firstTime(1));
        each("use(9)", "5 IS 5 5 5 5 5 5 5 IS", x -> x.use(9));
        each("peak()", "0 IS 0 0 0 0 0 0 0 IS", x -> x.peak());
        each("peakSet()", "3 IS 3 3 3 3 3 3 3 IS", x -> x.peakSet());
        each("slack(0, 1)", "9999 IS 9999 9999 9999 9999 9999 9999 9999 IS", x -> x.slack(0, 1));
        each("level()", "1 IS 1 1 1 1 1 1 1 IS", x -> x.level());
        each("setCost(1, 7, 1, 1)", "15 15 15 15 15 15 15 15 15 15", x -> x.setCost(1, 7, 1, 1));
        each("costOf(1, 11)", "8 8 8 8 8 8 8 8 8 8", x -> x.costOf(1, 11));
        each("cost()", "10 IS 10 10 10 10 10 10 10 IS", x -> x.cost());
    }

    private static void rest() {
        each("open()", "1 1 1 1 2 1 1 1 2 2", x -> x.open());
        each("takeBack()", "IS IS IS IS 0 IS IS IS 0 0", x -> x.takeBack());
    }

    /** Each public method is in one of the rows. */
    private static void allMethods() {
        int known = 0;
        for (Method method : Simplespan.class.getDeclaredMethods()) {
            if (Modifier.isPublic(method.getModifiers())) {
                known++;
                Check.same("a row for " + method.getName(), "true", "" + NAMES.contains(method.getName()));
            }
        }
        Check.same("methods", "" + known, "" + NAMES.size());
    }
}
