/** Promises 16 to 21: a test for each sentence that names a boundary case. */
public final class EdgeControlTest {
    public static void main(String[] args) {
        weakAtOneSpan();
        weakAtTwoSpans();
        weakAtThreeSpans();
        weakWhenASpanHasEnded();
        judgedWithoutSpans();
        judgedWhenNotConsistent();
        strongAtOneSpan();
        strongAtTwoSpans();
        strongOverAChain();
        strongWhenEventsHaveStarted();
        strongAheadOfTheMinuteZero();
        strongLooksAtBoundsThatHold();
        judgedWhateverIsAsked();
        upperEdgeAtFirst();
        upperEdgesGoOn();
        lowerReductionAtZero();
        lowerReductionToOthers();
        acrossAtZero();
        acrossSpansInARow();
        freedAtTheLeastLength();
        wayBackOfZero();
        noUpperEdgeWhenEnded();
        valuesOverTheEventZero();
        roundsByOldValues();
        roundsEndBadly();
        sixtyRounds();
        reducedEdges();
        reducedOrder();
        waitEdges();
        waitOrder();
        Check.end();
    }

    private static void judged(String what, Simplespan x, boolean weak, boolean strong, boolean seen) {
        Check.due(what + ": isWeak", weak, () -> x.isWeak());
        Check.due(what + ": isStrong", strong, () -> x.isStrong());
        Check.due(what + ": isSeen", seen, () -> x.isSeen());
    }

    /** How a plan is judged with one more bound. */
    private static void judgedWith(String what, Simplespan x, int from, int to, int most, String letters) {
        x.open();
        x.bound(from, to, most, 0);
        judged(what, x, letters.charAt(0) == 'y', letters.charAt(1) == 'y', letters.charAt(2) == 'y');
        x.takeBack();
    }

    // Promise 16

    private static void weakAtOneSpan() {
        Simplespan x = Check.plan(1);
        x.addSpan(0, 1, 3, 10);
        judgedWith("at most the greatest length", x, 0, 1, 10, "yyy");
        judgedWith("at most one less", x, 0, 1, 9, "nnn");
        judgedWith("at least the least length", x, 1, 0, -3, "yyy");
        judgedWith("at least one more", x, 1, 0, -4, "nnn");
        Simplespan y = Check.plan(1);
        y.addSpan(0, 1, 7, 7);
        judgedWith("one length: at most it", y, 0, 1, 7, "yyy");
        judgedWith("one length: at most one less", y, 0, 1, 6, "nnn");
        judgedWith("one length: at least it", y, 1, 0, -7, "yyy");
        judgedWith("one length: at least one more", y, 1, 0, -8, "nnn");
        Simplespan z = Check.plan(1);
        z.addSpan(0, 1, 1, 200);
        judgedWith("from 1 to 200", z, 0, 1, 200, "yyy");
        judgedWith("from 1 to 199", z, 0, 1, 199, "nnn");
        judgedWith("from 1", z, 1, 0, -1, "yyy");
        judgedWith("from 2", z, 1, 0, -2, "nnn");
    }

    /** The ends are 7 minutes apart if one length is the least and the other one is the greatest. */
    private static void weakAtTwoSpans() {
        Simplespan x = Check.plan(2);
        x.addSpan(0, 1, 3, 10);
        x.addSpan(0, 2, 3, 10);
        judgedWith("7 apart", x, 1, 2, 7, "yyy");
        judgedWith("6 apart", x, 1, 2, 6, "nnn");
        judgedWith("7 apart the other way", x, 2, 1, 7, "yyy");
        judgedWith("6 apart the other way", x, 2, 1, 6, "nnn");
    }

    private static void weakAtThreeSpans() {
        Simplespan x = Check.plan(3);
        x.addSpan(0, 1, 1, 3);
        x.addSpan(1, 2, 1, 4);
        x.addSpan(2, 3, 1, 5);
        judgedWith("at most the sum of greatest lengths", x, 0, 3, 12, "yyn");
        judgedWith("at most one less", x, 0, 3, 11, "nnn");
        judgedWith("at least the sum of least lengths", x, 3, 0, -3, "yyn");
        judgedWith("at least one more", x, 3, 0, -4, "nnn");
    }

    private static void weakWhenASpanHasEnded() {
        Simplespan x = Check.plan(1);
        x.addSpan(0, 1, 3, 10);
        x.pass(5);
        judgedWith("nature can still pick 10", x, 0, 1, 9, "nnn");
        judgedWith("and 3, though 5 minutes have passed", x, 1, 0, -4, "nnn");
        x.end(0);
        judgedWith("it was 5: at most 5", x, 0, 1, 5, "yyy");
        judgedWith("it was 5: at most 4", x, 0, 1, 4, "nnn");
        judgedWith("it was 5: at least 5", x, 1, 0, -5, "yyy");
        judgedWith("it was 5: at least 6", x, 1, 0, -6, "nnn");
    }

    private static void judgedWithoutSpans() {
        Simplespan x = Check.plan(1);
        x.bound(1, 0, -5, 0);
        judgedWith("a way back of 0", x, 0, 1, 5, "yyy");
        judgedWith("a way back of -1", x, 0, 1, 4, "nnn");
        Check.due("no rounds", 0, () -> x.rounds());
        Check.due("values are distances", -5, () -> x.reduced(1, 0));
        Check.refused("with no way there is none", Edge.UNSUPPORTED, x, () -> x.reduced(0, 1));
    }

    private static void judgedWhenNotConsistent() {
        Simplespan x = Edge.broken(3);
        judged("not consistent", x, false, false, false);
        x.addSpan(2, 3, 1, 5);
        judged("not consistent, with a span apart", x, false, false, false);
        Check.due("they end badly, with no rounds", 0, () -> x.rounds());
        x.dropBound(1);
        judged("consistent", x, true, true, true);
        Check.due("rounds again", 1, () -> x.rounds());
    }

    // Promise 17

    /** The event 2 must come from so many minutes ahead of the end to so many behind it. */
    private static Simplespan near(int ahead, int behind) {
        Simplespan x = Check.plan(2);
        x.addSpan(0, 1, 3, 10);
        x.bound(2, 1, ahead, 0);
        x.bound(1, 2, behind, 0);
        return x;
    }

    private static void strongAtOneSpan() {
        judged("0 and 7: the minute 10", near(0, 7), true, true, true);
        judged("0 and 6: no minute", near(0, 6), true, false, true);
        judged("7 and 0: the minute 3", near(7, 0), true, true, true);
        judged("6 and 0: no minute", near(6, 0), true, false, false);
        judged("4 and 3: the minute 6", near(4, 3), true, true, true);
        judged("3 and 3: no minute", near(3, 3), true, false, true);
        judged("-1 and 8: the minute 11", near(-1, 8), true, true, true);
        judged("0 and 1: it must see the end", near(0, 1), true, false, true);
        judged("0 and 0: the minute of the end is too late to see it", near(0, 0), true, false, false);
        judged("1 and -1: ahead of the end alone", near(1, -1), true, false, false);
    }

    private static void strongAtTwoSpans() {
        Simplespan x = Check.plan(4);
        x.addSpan(1, 2, 3, 10);
        x.addSpan(3, 4, 2, 6);
        judgedWith("2 at most 0 behind 4: fixed times far apart", x, 4, 2, 0, "yyy");
        x.bound(1, 3, 8, 0);
        judgedWith("3 starts at 8: 10 is 8 and 2", x, 4, 2, 0, "yyy");
        x.bound(1, 3, 7, 0);
        judgedWith("3 starts at 7: 10 is more than 7 and 2", x, 4, 2, 0, "nnn");
        judgedWith("at most 1 behind", x, 4, 2, 1, "yyy");
    }

    private static void strongOverAChain() {
        Simplespan x = Check.plan(3);
        x.addSpan(0, 1, 2, 4);
        x.addSpan(1, 2, 5, 9);
        x.bound(2, 3, 6, 0);
        judgedWith("7 and 6 is 13, as are 4 and 9", x, 3, 2, 0, "yyn");
        x.bound(2, 3, 5, 0);
        judgedWith("7 and 5 is less than 4 and 9", x, 3, 2, 0, "ynn");
    }

    private static void strongWhenEventsHaveStarted() {
        Simplespan x = near(1, 6);
        judged("the minute 9 is a fixed time", x, true, true, true);
        x.pass(9);
        x.open();
        x.start(2);
        judged("it started at the minute 9", x, true, true, true);
        x.takeBack();
        x.pass(1);
        judged("a fixed time that has passed is not looked at", x, true, true, true);
        Check.due("it can start still, for all that is told", 10, () -> x.start(2));
        judged("it started at the minute 10", x, false, false, false);
        x.end(0);
        judged("the end was seen", x, true, true, true);
    }

    /** Fixed times are told nothing of but the bounds: they may be ahead of the minute 0. */
    private static void strongAheadOfTheMinuteZero() {
        Simplespan x = Check.plan(3);
        x.bound(0, 1, -5, 0);
        judged("1 comes at least 5 minutes ahead of 0", x, true, true, true);
        x.addSpan(1, 2, 3, 10);
        judged("and so does a span", x, true, true, true);
        x.bound(3, 2, -1, 0);
        x.bound(2, 3, 8, 0);
        judged("3 at the minute of 1 and 11", x, true, true, true);
        x.bound(0, 2, -1, 0);
        judged("and the end ahead of 0: 1 at -11", x, true, true, true);
        judgedWith("1 at most 11 ahead of 0", x, 1, 0, 11, "yyy");
        judgedWith("1 at most 10 ahead of 0", x, 1, 0, 10, "nnn");
    }

    private static void strongLooksAtBoundsThatHold() {
        Simplespan x = near(0, 7);
        x.bound(1, 2, 6, 3);
        judged("of an open label", x, true, true, true);
        x.observe(3, true);
        judged("of a true label", x, true, false, true);
        x.dropBound(2);
        judged("dropped", x, true, true, true);
    }

    /** A plan in which other labels would make the net not consistent. */
    private static void judgedWhateverIsAsked() {
        Simplespan x = near(0, 7);
        x.bound(0, 2, 9, 1);
        x.bound(0, 2, -1, 2);
        x.bound(2, 0, 0, 2);
        for (int trues = 0; trues < 4; trues++) {
            int sum = trues;
            Check.due("isPossible " + sum, sum < 2, () -> x.isPossible(sum, 0));
            Check.due("isStrong", true, () -> x.isStrong());
            Check.due("isPossible " + sum, sum < 2, () -> x.isPossible(sum, 0));
            Check.due("isWeak", true, () -> x.isWeak());
            Check.due("isPossible " + sum, sum < 2, () -> x.isPossible(sum, 0));
            Check.due("isSeen", true, () -> x.isSeen());
        }
        x.observe(1, true);
        judged("of a true label", x, false, false, false);
    }

    // Promises 18 and 19: the reductions

    private static void upperEdgeAtFirst() {
        Simplespan x = Check.plan(1);
        x.addSpan(0, 1, 200, 200);
        Check.due("its greatest length less than 0", 200, () -> x.waitFor(1, 0));
        Check.due("one round: from the event 0 to itself", 1, () -> x.rounds());
        Check.refused("this is 0, and no wait", Edge.UNSUPPORTED, x, () -> x.waitFor(0, 0));
        Simplespan y = Check.plan(1);
        y.addSpan(0, 1, 1, 1);
        Check.due("the least one of all", 1, () -> y.waitFor(1, 0));
    }

    private static void upperEdgesGoOn() {
        Simplespan x = Check.plan(4);
        x.addSpan(1, 2, 3, 10);
        x.bound(3, 2, 2, 0);
        x.bound(4, 3, 1, 0);
        Check.due("from D to C and from C to E", 8, () -> x.waitFor(3, 0));
        Check.due("from farther away", 7, () -> x.waitFor(4, 0));
        Check.refused("no value leads there", Edge.UNSUPPORTED, x, () -> x.waitFor(0, 0));
    }

    /** The event 2 comes at most so many minutes behind the end, and at least 0 behind the event 0. */
    private static Simplespan behindEnd(int most) {
        Simplespan x = Check.plan(2);
        x.addSpan(0, 1, 8, 20);
        x.bound(1, 2, most, 0);
        x.bound(2, 0, 0, 0);
        return x;
    }

    private static void lowerReductionAtZero() {
        Check.due("1 is greater than 0", 21, () -> behindEnd(1).reduced(0, 2));
        Check.due("0 is not", 8, () -> behindEnd(0).reduced(0, 2));
        Check.due("-1 is not", 7, () -> behindEnd(-1).reduced(0, 2));
        Check.due("-8 leaves the minute 0", 0, () -> behindEnd(-8).reduced(0, 2));
        Check.due("-8 can be kept", true, () -> behindEnd(-8).isSeen());
        Check.due("-9 cannot", false, () -> behindEnd(-9).isSeen());
        Check.due("the distance is as it was", 19, () -> behindEnd(-1).distance(0, 2));
    }

    private static void lowerReductionToOthers() {
        Simplespan x = Check.plan(1);
        x.addSpan(0, 1, 8, 20);
        Check.due("not to the end itself", 20, () -> x.reduced(0, 1));
        Check.due("to its first event", 0, () -> x.reduced(0, 0));
        x.bound(1, 0, -9, 0);
        Check.due("the end at least 9 behind its first event", false, () -> x.isSeen());
        Check.due("they end badly behind the first round", 1, () -> x.rounds());
    }

    /** The event 1 comes at most so many minutes behind the end of the second span. */
    private static Simplespan beside(int most) {
        Simplespan x = Check.plan(3);
        x.addSpan(0, 1, 3, 20);
        x.addSpan(2, 3, 4, 6);
        x.bound(3, 1, most, 0);
        return x;
    }

    private static void acrossAtZero() {
        Check.due("an upper edge of 1 is greater than 0", 7, () -> beside(21).reduced(2, 0));
        Check.due("one of 0 is not", 4, () -> beside(20).reduced(2, 0));
        Check.due("one of -1 is not", 3, () -> beside(19).reduced(2, 0));
        Check.due("one of -4 leaves 0", 0, () -> beside(16).reduced(2, 0));
        Check.refused("0 is no wait", Edge.UNSUPPORTED, beside(16), () -> beside(16).waitFor(2, 0));
        Check.due("one of -5 leaves a wait of 1", 1, () -> beside(15).waitFor(2, 0));
        Check.due("by the greatest length it would be 1 too", 3, () -> beside(13).waitFor(2, 0));
    }

    /** The upper edge of the second span from its first event to itself is taken over the first span. */
    private static void acrossSpansInARow() {
        Simplespan x = Check.plan(2);
        x.addSpan(0, 1, 4, 4);
        x.addSpan(1, 2, 5, 9);
        Check.due("the first one has one length", true, () -> x.isSeen());
        Simplespan y = Check.plan(2);
        y.addSpan(0, 1, 4, 5);
        y.addSpan(1, 2, 5, 9);
        Check.due("the first one has two lengths", false, () -> y.isSeen());
        Check.due("behind the second round", 2, () -> y.rounds());
        y.pass(4);
        y.end(0);
        Check.due("the first one has ended", true, () -> y.isSeen());
    }

    /** The end comes at most so many minutes behind the event 2. */
    private static Simplespan aheadOfEnd(int most) {
        Simplespan x = Check.plan(2);
        x.addSpan(0, 1, 3, 10);
        x.bound(2, 1, most, 0);
        return x;
    }

    private static void freedAtTheLeastLength() {
        Check.due("-3 is not less than -3", -3, () -> aheadOfEnd(7).reduced(2, 0));
        Check.due("-4 is", 3, () -> aheadOfEnd(6).reduced(2, 0));
        Check.due("-2 is not", -2, () -> aheadOfEnd(8).reduced(2, 0));
        Check.due("0 is not", 0, () -> aheadOfEnd(10).reduced(2, 0));
        Check.due("1 is not", 1, () -> aheadOfEnd(11).reduced(2, 0));
        Check.due("its wait stays", 3, () -> aheadOfEnd(7).waitFor(2, 0));
        Simplespan x = Check.plan(2);
        x.addSpan(0, 1, 10, 10);
        x.bound(2, 1, 0, 0);
        Check.due("with one length each upper edge is a value", -10, () -> x.reduced(2, 0));
    }

    /** The event 2 comes at most so many minutes behind the event 0, and its wait is 9. */
    private static void wayBackOfZero() {
        Simplespan x = Check.plan(2);
        x.addSpan(0, 1, 3, 10);
        x.bound(2, 1, 1, 0);
        judgedWith("at the minute 9 the wait is over", x, 0, 2, 9, "yyy");
        judgedWith("at the minute 8 it is not", x, 0, 2, 8, "nnn");
    }

    private static void noUpperEdgeWhenEnded() {
        Simplespan x = Check.plan(2);
        x.addSpan(0, 1, 3, 10);
        x.bound(1, 2, 0, 0);
        x.bound(2, 0, 0, 0);
        x.pass(3);
        Check.due("ahead of its end", 3, () -> x.reduced(0, 2));
        Check.due("ahead of its end", 10, () -> x.waitFor(1, 0));
        x.end(0);
        Check.refused("its end waits no more", Edge.UNSUPPORTED, x, () -> x.waitFor(1, 0));
        Check.due("no rounds", 0, () -> x.rounds());
        Simplespan y = behindEnd(0);
        y.pass(15);
        y.end(0);
        Check.due("nor is the least length taken", 15, () -> y.reduced(0, 2));
    }

    /** What is reduced goes on to and from all events, the event 0 too. */
    private static void valuesOverTheEventZero() {
        Simplespan x = Check.plan(4);
        x.addSpan(1, 2, 8, 20);
        x.bound(2, 3, -2, 0);
        x.bound(0, 1, 5, 0);
        x.bound(3, 0, 30, 0);
        Check.due("reduced by the least length", 6, () -> x.reduced(1, 3));
        Check.due("from the event 0", 11, () -> x.reduced(0, 3));
        Check.due("to the event 0", 36, () -> x.reduced(1, 0));
        Check.due("the distance is more", 48, () -> x.distance(1, 0));
        Simplespan y = Check.plan(4);
        y.addSpan(2, 3, 3, 20);
        y.addSpan(0, 1, 4, 6);
        y.bound(1, 3, 1, 0);
        y.bound(4, 0, 2, 0);
        Check.due("a wait goes across to the event 0", 15, () -> y.waitFor(0, 0));
        Check.due("and on from there", 13, () -> y.waitFor(4, 0));
        Check.due("the span's own", 20, () -> y.waitFor(3, 0));
    }

    /** Each round looks at what was found ahead of it alone; by what it finds itself it would be fewer rounds. */
    private static void roundsByOldValues() {
        Check.due("an upper edge, across, freed, and one value more", 4, () -> beside(20).rounds());
        Check.due("freed, and no more", 2, () -> aheadOfEnd(7).rounds());
        Check.due("not freed", 1, () -> aheadOfEnd(6).rounds());
        Check.due("reduced by the least length", 1, () -> behindEnd(0).rounds());
        Simplespan x = Check.plan(2);
        x.addSpan(0, 1, 3, 10);
        x.addSpan(0, 2, 3, 10);
        Check.due("two spans apart", 1, () -> x.rounds());
    }

    private static void roundsEndBadly() {
        Simplespan x = Edge.unseen(1);
        Check.due("the first round is counted", 1, () -> x.rounds());
        Simplespan y = Check.plan(2);
        y.addSpan(0, 1, 3, 10);
        y.addSpan(0, 2, 3, 10);
        y.bound(1, 2, 6, 0);
        Check.due("the second round is counted", 2, () -> y.rounds());
        Check.due("isSeen", false, () -> y.isSeen());
    }

    /** No plan is known that comes near so many rounds (NOTES.md), so the number itself is looked at. */
    private static void sixtyRounds() {
        try {
            java.lang.reflect.Field most = Simplespan.class.getDeclaredField("MOST_ROUNDS");
            most.setAccessible(true);
            Check.same("if 60 rounds changed something, they end badly", "60", String.valueOf(most.get(null)));
        } catch (ReflectiveOperationException e) {
            Check.same("the limit of rounds", "60", "not found");
        }
    }

    // Promise 20

    private static void reducedEdges() {
        Simplespan x = Check.plan(2);
        x.addSpan(0, 1, 3, 10);
        x.bound(0, 2, 5, 0);
        x.bound(2, 0, 5, 0);
        Edge.range("from", x, 0, 2, Edge.NONE, n -> x.reduced(n, 0));
        Edge.range("to", x, 0, 2, Edge.NONE, n -> x.reduced(0, n));
        for (int e = 0; e <= 2; e++) {
            int event = e;
            Check.due("the same one", 0, () -> x.reduced(event, event));
        }
        Simplespan y = Check.plan(3);
        y.addSpan(0, 1, 3, 10);
        Check.refused("no way", Edge.UNSUPPORTED, y, () -> y.reduced(0, 2));
        Check.refused("no way", Edge.UNSUPPORTED, y, () -> y.reduced(2, 0));
        Check.due("the same one, without a way", 0, () -> y.reduced(3, 3));
    }

    private static void reducedOrder() {
        Simplespan x = Edge.unseen(2);
        Check.refused("no such event, badly", Edge.NONE, x, () -> x.reduced(3, 0));
        Check.refused("no such event, badly", Edge.NONE, x, () -> x.reduced(0, -1));
        Check.refused("badly, and none", Edge.STATE, x, () -> x.reduced(0, 2));
        Check.refused("badly, the same one", Edge.STATE, x, () -> x.reduced(2, 2));
        Simplespan y = Edge.broken(2);
        Check.refused("not consistent, no such event", Edge.NONE, y, () -> y.reduced(3, 3));
        Check.refused("not consistent", Edge.STATE, y, () -> y.reduced(0, 2));
    }

    // Promise 21

    private static void waitEdges() {
        Check.due("an upper edge of -1", 1, () -> aheadOfEnd(9).waitFor(2, 0));
        Check.unsupported("one of 0", () -> aheadOfEnd(10).waitFor(2, 0));
        Check.unsupported("one of 1", () -> aheadOfEnd(11).waitFor(2, 0));
        Check.due("behind the end", 11, () -> aheadOfEnd(-1).waitFor(2, 0));
        Simplespan x = Check.plan(3);
        Edge.outside("no span", x, 0, -1, Edge.NONE, n -> x.waitFor(0, n));
        x.addSpan(0, 1, 3, 10);
        x.addSpan(0, 2, 4, 20);
        x.bound(0, 3, 0, 0);
        x.bound(3, 0, 0, 0);
        Edge.outside("span", x, 0, 1, Edge.NONE, n -> x.waitFor(1, n));
        Edge.outside("event", x, 0, 3, Edge.NONE, n -> x.waitFor(n, 0));
        Check.due("the span 0", 10, () -> x.waitFor(1, 0));
        Check.due("the span 1", 20, () -> x.waitFor(2, 1));
        Check.refused("at the same time as the first event", Edge.UNSUPPORTED, x, () -> x.waitFor(3, 0));
    }

    private static void waitOrder() {
        Simplespan x = Edge.unseen(2);
        Check.refused("no such event, badly", Edge.NONE, x, () -> x.waitFor(3, 0));
        Check.refused("no such span, badly", Edge.NONE, x, () -> x.waitFor(1, 1));
        Check.refused("neither, badly", Edge.NONE, x, () -> x.waitFor(-1, -1));
        Check.refused("badly, and none", Edge.STATE, x, () -> x.waitFor(2, 0));
        Check.refused("badly", Edge.STATE, x, () -> x.waitFor(1, 0));
        Simplespan y = Edge.broken(2);
        Check.refused("no such span, not consistent", Edge.NONE, y, () -> y.waitFor(1, 0));
        y.addSpan(0, 2, 1, 5);
        Check.refused("not consistent", Edge.STATE, y, () -> y.waitFor(2, 0));
    }
}
