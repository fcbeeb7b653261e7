import java.util.NoSuchElementException;

/** Promises 16 to 21: control, reductions, their values and waits. */
public final class ControlTest {
    public static void main(String[] args) {
        oneSpan();
        notWeak();
        waiting();
        strong();
        strongChain();
        endedSpan();
        lowerReduction();
        acrossReduction();
        freedUpper();
        manyRounds();
        badly();
        Check.end();
    }

    private static void judged(String what, Simplespan x, boolean weak, boolean strong, boolean seen) {
        Check.due(what + ": isWeak", weak, () -> x.isWeak());
        Check.due(what + ": isStrong", strong, () -> x.isStrong());
        Check.due(what + ": isSeen", seen, () -> x.isSeen());
    }

    private static void oneSpan() {
        Simplespan x = Check.plan(1);
        x.addSpan(0, 1, 3, 10);
        judged("one span", x, true, true, true);
        Check.due("only the upper edge from 0 to 0 is new", 1, () -> x.rounds());
        Check.due("reduced", 10, () -> x.reduced(0, 1));
        Check.due("reduced", -3, () -> x.reduced(1, 0));
        Check.due("reduced", 0, () -> x.reduced(0, 0));
        Check.due("the end's own wait", 10, () -> x.waitFor(1, 0));
        Check.refused("0 is no wait", UnsupportedOperationException.class, x, () -> x.waitFor(0, 0));
    }

    private static void notWeak() {
        Simplespan x = Check.plan(1);
        x.addSpan(0, 1, 3, 10);
        x.bound(0, 1, 10, 0);
        judged("the greatest length fits", x, true, true, true);
        x.bound(0, 1, 9, 0);
        judged("the greatest length does not fit", x, false, false, false);
        Check.due("they end badly behind a round", 1, () -> x.rounds());
        Simplespan y = Check.plan(1);
        y.addSpan(0, 1, 3, 10);
        y.bound(1, 0, -4, 0);
        Check.due("isConsistent", true, () -> y.isConsistent());
        judged("the least length does not fit", y, false, false, false);
    }

    /** The event 2 comes from 1 minute ahead of the end to 2 minutes behind it. */
    private static Simplespan waits() {
        Simplespan x = Check.plan(3);
        x.addSpan(0, 1, 3, 10);
        x.bound(2, 1, 1, 0);
        x.bound(1, 2, 2, 0);
        return x;
    }

    private static void waiting() {
        Simplespan x = waits();
        judged("it must see the end", x, true, false, true);
        Check.due("waitFor", 9, () -> x.waitFor(2, 0));
        Check.due("waitFor", 10, () -> x.waitFor(1, 0));
        Check.due("reduced", -2, () -> x.reduced(2, 0));
        Check.due("reduced", 12, () -> x.reduced(0, 2));
        Check.due("rounds", 1, () -> x.rounds());
        Check.refused("no edge", UnsupportedOperationException.class, x, () -> x.waitFor(3, 0));
        Check.refused("no value", UnsupportedOperationException.class, x, () -> x.reduced(0, 3));
        Class<NoSuchElementException> none = NoSuchElementException.class;
        Check.refused("no such event", none, x, () -> x.waitFor(4, 0));
        Check.refused("no such event", none, x, () -> x.waitFor(-1, 0));
        Check.refused("no such span", none, x, () -> x.waitFor(1, 1));
        Check.refused("no such span", none, x, () -> x.waitFor(1, -1));
        Check.refused("no such event", none, x, () -> x.reduced(4, 0));
        Check.refused("no such event", none, x, () -> x.reduced(0, -1));
    }

    private static void strong() {
        Simplespan x = Check.plan(2);
        x.addSpan(0, 1, 3, 10);
        x.bound(2, 1, 1, 0);
        x.bound(1, 2, 6, 0);
        Check.due("9 to 9 is a fixed time", true, () -> x.isStrong());
        x.bound(1, 2, 5, 0);
        Check.due("9 to 8 is none", false, () -> x.isStrong());
        Check.due("isSeen", true, () -> x.isSeen());
        x.bound(0, 2, 200, 1);
        Check.due("a bound that does not hold", false, () -> x.isStrong());
    }

    /**
     * Two spans one behind the other. By the words of the reductions, the upper edge of the second span from
     * its first event to itself, which is 0, is taken over the first span, so that such a plan cannot be
     * controlled as it is seen.
     */
    private static void strongChain() {
        Simplespan x = Check.plan(3);
        x.addSpan(0, 1, 2, 4);
        x.addSpan(1, 2, 10, 13);
        x.bound(1, 2, 13, 0);
        judged("a bound over the second span alone", x, true, true, false);
        Check.due("the second span's upper edge from 1 to 1 goes back to 0", 2, () -> x.rounds());
        x.bound(0, 3, 17, 0);
        x.bound(3, 2, 0, 0);
        judged("17 is the greatest sum", x, true, true, false);
        x.bound(0, 3, 16, 0);
        judged("16 is less", x, false, false, false);
    }

    private static void endedSpan() {
        Simplespan x = Check.plan(2);
        x.addSpan(0, 1, 3, 10);
        x.bound(0, 1, 6, 0);
        judged("ahead of its end", x, false, false, false);
        x.pass(5);
        judged("nature can still pick each length", x, false, false, false);
        Check.due("end", 5, () -> x.end(0));
        judged("it has ended in time", x, true, true, true);
        Check.due("rounds", 0, () -> x.rounds());
        Check.refused("no wait for a span that has ended", UnsupportedOperationException.class, x,
            () -> x.waitFor(1, 0));
        x.bound(0, 1, 4, 0);
        judged("it has not", x, false, false, false);
        Simplespan y = Check.plan(2);
        y.addSpan(0, 1, 3, 10);
        y.bound(2, 1, 1, 0);
        y.bound(1, 2, 2, 0);
        y.pass(7);
        y.end(0);
        judged("its end has a fixed time", y, true, true, true);
        Check.due("reduced", 9, () -> y.reduced(0, 2));
        Check.due("reduced", -6, () -> y.reduced(2, 0));
    }

    /** The event 2 must come 5 minutes ahead of the end; the least length may be picked. */
    private static void lowerReduction() {
        Simplespan x = Check.plan(2);
        x.addSpan(0, 1, 8, 20);
        x.bound(1, 2, -5, 0);
        x.bound(2, 0, 0, 0);
        judged("the event 2 comes ahead of 3", x, true, true, true);
        Check.due("the least length counts", 3, () -> x.reduced(0, 2));
        Check.due("distance", 15, () -> x.distance(0, 2));
        x.bound(2, 0, -4, 0);
        Check.due("isConsistent", true, () -> x.isConsistent());
        judged("it cannot", x, false, false, false);
        Simplespan y = Check.plan(2);
        y.addSpan(0, 1, 8, 20);
        y.bound(1, 2, 0, 0);
        y.bound(2, 0, 0, 0);
        Check.due("0 is not greater than 0", true, () -> y.isSeen());
        Check.due("so it is reduced", 8, () -> y.reduced(0, 2));
        Simplespan z = Check.plan(2);
        z.addSpan(0, 1, 8, 20);
        z.bound(1, 2, 1, 0);
        z.bound(2, 0, 0, 0);
        Check.due("1 is", true, () -> z.isSeen());
        Check.due("so it is not", 21, () -> z.reduced(0, 2));
    }

    /** The wait for one span goes back over another span by this one's least length. */
    private static void acrossReduction() {
        Simplespan x = Check.plan(4);
        x.addSpan(0, 1, 3, 20);
        x.addSpan(2, 3, 4, 6);
        x.bound(3, 1, 1, 0);
        x.bound(1, 3, 30, 0);
        Check.due("isSeen", true, () -> x.isSeen());
        Check.due("waitFor", 19, () -> x.waitFor(3, 0));
        Check.due("waitFor", 15, () -> x.waitFor(2, 0));
        Check.due("the span's own", 6, () -> x.waitFor(3, 1));
        Check.unsupported("none", () -> x.waitFor(4, 0));
        Simplespan y = Check.plan(3);
        y.addSpan(0, 1, 3, 20);
        y.addSpan(2, 3, 4, 6);
        y.bound(3, 1, 20, 0);
        Check.due("an upper edge of 0 goes across, and is freed", 4, () -> y.reduced(2, 0));
        Simplespan z = Check.plan(3);
        z.addSpan(0, 1, 3, 20);
        z.addSpan(2, 3, 4, 6);
        z.bound(3, 1, 21, 0);
        Check.due("an upper edge of 1 does not", 7, () -> z.reduced(2, 0));
    }

    /** An upper edge that is not less than the least length less than 0 is a value. */
    private static void freedUpper() {
        Simplespan x = Check.plan(2);
        x.addSpan(0, 1, 3, 10);
        x.bound(2, 1, 7, 0);
        Check.due("isSeen", true, () -> x.isSeen());
        Check.due("waitFor", 3, () -> x.waitFor(2, 0));
        Check.due("the upper edge is -3", -3, () -> x.reduced(2, 0));
        Check.due("the distance was 4", 4, () -> x.distance(2, 0));
        Simplespan y = Check.plan(2);
        y.addSpan(0, 1, 3, 10);
        y.bound(2, 1, 6, 0);
        Check.due("waitFor", 4, () -> y.waitFor(2, 0));
        Check.due("the upper edge is -4", 3, () -> y.reduced(2, 0));
    }

    /** Found by a search for many rounds; the oracle answers the same. */
    private static void manyRounds() {
        Simplespan x = Check.plan(9);
        Oracle oracle = new Oracle();
        for (int i = 1; i < 10; i++) {
            oracle.addEvent();
        }
        int[][] spans = {{2, 6, 48, 131}, {3, 8, 2, 200}, {5, 9, 8, 188}};
        int[][] bounds = {{5, 6, 51}, {8, 9, 142}, {8, 4, 6}, {9, 7, 18}, {6, 0, -251}, {7, 8, 215}, {1, 3, -208},
            {4, 7, 43}, {0, 4, 332}, {1, 3, 140}, {5, 7, 137}, {5, 2, 342}, {3, 0, 71}, {3, 0, -33}, {5, 3, 205},
            {4, 0, 500}, {4, 6, 324}, {6, 0, 244}, {5, 0, 197}, {4, 8, 195}};
        for (int[] row : spans) {
            x.addSpan(row[0], row[1], row[2], row[3]);
            oracle.addSpan(row[0], row[1], row[2], row[3]);
        }
        for (int[] row : bounds) {
            x.bound(row[0], row[1], row[2], 0);
            oracle.bound(row[0], row[1], row[2], 0);
        }
        Check.due("rounds", 17, () -> x.rounds());
        Check.due("isSeen", true, () -> x.isSeen());
        Check.same("rounds", "17", Check.told(() -> oracle.rounds()));
        for (int i = 0; i < 100; i++) {
            int from = i / 10;
            int to = i % 10;
            Check.same("reduced", Check.told(() -> oracle.reduced(from, to)), Check.told(() -> x.reduced(from, to)));
        }
    }

    private static void badly() {
        Simplespan x = Check.plan(1);
        x.addSpan(0, 1, 3, 10);
        x.bound(0, 1, 6, 0);
        Class<IllegalStateException> state = IllegalStateException.class;
        Check.refused("reduced", state, x, () -> x.reduced(0, 1));
        Check.refused("waitFor", state, x, () -> x.waitFor(1, 0));
        Check.noSuch("reduced", () -> x.reduced(0, 2));
        Check.noSuch("waitFor", () -> x.waitFor(1, 1));
        x.bound(0, 1, 2, 0);
        judged("not consistent", x, false, false, false);
        Check.due("with no rounds", 0, () -> x.rounds());
        Check.refused("reduced", state, x, () -> x.reduced(0, 0));
    }
}
