import java.util.NoSuchElementException;

/** Promises 10 to 15 and 48: the net, its distances and its conflicts. */
public final class NetTest {
    public static void main(String[] args) {
        distances();
        wrongEvents();
        isDirect();
        startedEdges();
        conflict();
        conflictOfLabels();
        largeConflict();
        meanSlack();
        Check.end();
    }

    private static void distances() {
        Simplespan x = Check.plan(4);
        x.bound(0, 1, 30, 0);
        x.bound(1, 0, -5, 0);
        x.bound(1, 2, 20, 0);
        x.bound(2, 1, -10, 0);
        x.bound(0, 2, 45, 0);
        x.bound(0, 2, 48, 0);
        int[][] due = {{0, 1, 30}, {1, 0, -5}, {0, 2, 45}, {2, 0, -15}, {1, 2, 20}, {0, 0, 0}, {3, 3, 0}};
        for (int[] row : due) {
            Check.due("distance", row[2], () -> x.distance(row[0], row[1]));
            Check.due("distanceByRounds", row[2], () -> x.distanceByRounds(row[0], row[1]));
        }
        Check.refused("no way", UnsupportedOperationException.class, x, () -> x.distance(0, 3));
        Check.refused("no way", UnsupportedOperationException.class, x, () -> x.distanceByRounds(0, 3));
        x.addSpan(2, 3, 4, 6);
        Check.due("over a span", 51, () -> x.distance(0, 3));
        Check.due("back over a span", -19, () -> x.distanceByRounds(3, 0));
        Check.due("isConsistent", true, () -> x.isConsistent());
        x.bound(3, 1, -27, 0);
        Check.due("not consistent", false, () -> x.isConsistent());
        Check.refused("not consistent", IllegalStateException.class, x, () -> x.distance(0, 4));
        Check.refused("not consistent", IllegalStateException.class, x, () -> x.distanceByRounds(4, 4));
        Check.refused("not consistent", IllegalStateException.class, x, () -> x.isDirect(0, 4));
        Check.refused("not consistent", IllegalStateException.class, x, () -> x.meanSlack());
    }

    private static void wrongEvents() {
        Simplespan x = Check.plan(2);
        x.bound(0, 1, 5, 0);
        x.bound(1, 0, -6, 0);
        Class<NoSuchElementException> none = NoSuchElementException.class;
        for (int[] pair : new int[][] {{-1, 0}, {0, -1}, {3, 0}, {0, 3}, {10, 10}}) {
            Check.refused("distance", none, x, () -> x.distance(pair[0], pair[1]));
            Check.refused("distanceByRounds", none, x, () -> x.distanceByRounds(pair[0], pair[1]));
            Check.refused("isDirect", none, x, () -> x.isDirect(pair[0], pair[1]));
        }
        Check.refused("the same", IllegalArgumentException.class, x, () -> x.isDirect(1, 1));
        Check.refused("not consistent", IllegalStateException.class, x, () -> x.isDirect(1, 2));
    }

    private static void isDirect() {
        Simplespan x = Check.plan(3);
        x.bound(0, 1, 10, 0);
        x.bound(1, 2, 5, 0);
        Check.due("over 1", false, () -> x.isDirect(0, 2));
        Check.due("0 to 1", true, () -> x.isDirect(0, 1));
        Check.due("no way", false, () -> x.isDirect(2, 0));
        x.bound(0, 2, 15, 0);
        Check.due("as long as over 1", false, () -> x.isDirect(0, 2));
        x.bound(0, 2, 14, 0);
        Check.due("shorter", true, () -> x.isDirect(0, 2));
    }

    private static void startedEdges() {
        Simplespan x = Check.plan(2);
        x.bound(0, 1, 30, 0);
        x.bound(1, 2, 3, 0);
        x.pass(7);
        Check.due("start", 7, () -> x.start(1));
        Check.due("0 to 1", 7, () -> x.distance(0, 1));
        Check.due("1 to 0", -7, () -> x.distance(1, 0));
        Check.due("0 to 2", 10, () -> x.distanceByRounds(0, 2));
        x.bound(1, 0, -8, 0);
        Check.due("isConsistent", false, () -> x.isConsistent());
        Check.due("isPossible", false, () -> x.isPossible(0, 0));
        Check.due("conflictSize", 1, () -> x.conflictSize());
        Check.due("conflictAt", 2, () -> x.conflictAt(0));
    }

    private static void conflict() {
        Simplespan x = Check.plan(3);
        x.bound(0, 1, 10, 0);
        x.bound(2, 3, 10, 0);
        Check.refused("consistent", IllegalStateException.class, x, () -> x.conflictSize());
        Check.refused("consistent", IllegalStateException.class, x, () -> x.conflictAt(0));
        Check.refused("consistent", IllegalStateException.class, x, () -> x.conflictAt(-1));
        x.bound(1, 0, -20, 0);
        x.bound(0, 1, 5, 0);
        Check.due("the bound 0 is left out first", 2, () -> x.conflictSize());
        Check.due("conflictAt", 2, () -> x.conflictAt(0));
        Check.due("conflictAt", 3, () -> x.conflictAt(1));
        Check.refused("index 2", IndexOutOfBoundsException.class, x, () -> x.conflictAt(2));
        Check.refused("index -1", IndexOutOfBoundsException.class, x, () -> x.conflictAt(-1));
        Check.refused("index 99", IndexOutOfBoundsException.class, x, () -> x.conflictAt(99));
        x.dropBound(3);
        Check.due("conflictAt", 0, () -> x.conflictAt(0));
        Check.due("conflictAt", 2, () -> x.conflictAt(1));
        x.dropBound(2);
        Check.state("consistent again", () -> x.conflictSize());
    }

    private static void conflictOfLabels() {
        Simplespan x = Check.plan(1);
        x.bound(0, 1, 10, 1);
        x.bound(0, 1, 10, -1);
        x.addSpan(0, 1, 11, 20);
        Check.due("isConsistent", true, () -> x.isConsistent());
        x.observe(1, false);
        Check.due("a span and one bound", 1, () -> x.conflictSize());
        Check.due("conflictAt", 1, () -> x.conflictAt(0));
    }

    /** Ways below 0 through all events: their sums must not grow beyond an int. */
    private static void largeConflict() {
        Simplespan x = Check.plan(9);
        int told = 0;
        for (int step = 1; step < 5 && told < 40; step++) {
            for (int e = 0; e < 10 && told < 40; e++) {
                x.bound(e, (e + step) % 10, -500, 0);
                told++;
            }
        }
        Check.due("isConsistent", false, () -> x.isConsistent());
        Check.due("the last way back that is left goes over odd events", 5, () -> x.conflictSize());
        Check.due("conflictAt", 31, () -> x.conflictAt(0));
        Check.due("conflictAt", 39, () -> x.conflictAt(4));
        Check.due("isSeen", false, () -> x.isSeen());
        Check.due("rounds", 0, () -> x.rounds());
        Check.due("isStrong", false, () -> x.isStrong());
        Check.unsupported("choose", () -> x.choose());
    }

    private static void meanSlack() {
        Simplespan x = Check.plan(3);
        Check.refused("no distance", ArithmeticException.class, x, () -> x.meanSlack());
        x.bound(0, 1, 30, 0);
        x.bound(1, 0, -5, 0);
        Check.due("one", 25.0, () -> x.meanSlack());
        x.bound(0, 3, 10, 0);
        Check.due("two", 17.5, () -> x.meanSlack());
        x.bound(0, 2, -4, 0);
        Check.due("a distance less than 0", 31.0 / 3.0, () -> x.meanSlack());
        x.bound(1, 0, -31, 0);
        Check.state("not consistent", () -> x.meanSlack());
    }
}
