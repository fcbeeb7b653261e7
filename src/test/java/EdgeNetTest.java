/** Promises 10 to 15 and 48: a test for each sentence that names a boundary case. */
public final class EdgeNetTest {
    public static void main(String[] args) {
        wayBackOfZero();
        wayBackOverASpan();
        wayBackOverAStart();
        edgesThatAreThere();
        distanceEvents();
        distanceWays();
        distanceOrder();
        distanceOfStarts();
        leastOfManyBounds();
        leastOfManyWays();
        longestWays();
        directEdges();
        directThird();
        directThirdOfAll();
        conflictEdges();
        conflictByRisingNumbers();
        conflictOfAll();
        conflictWithSpanAndStart();
        conflictWhateverIsAsked();
        conflictOrder();
        meanSlackEdges();
        meanSlackOrder();
        Check.end();
    }

    /** Both ways to find a distance answer the same. */
    private static void distances(String what, Simplespan x, int from, int to, int want) {
        Check.due(what, want, () -> x.distance(from, to));
        Check.due(what + " by rounds", want, () -> x.distanceByRounds(from, to));
    }

    private static void noWay(String what, Simplespan x, int from, int to) {
        Check.refused(what, Edge.UNSUPPORTED, x, () -> x.distance(from, to));
        Check.refused(what + " by rounds", Edge.UNSUPPORTED, x, () -> x.distanceByRounds(from, to));
    }

    // Promise 10: no way back has a sum less than 0

    private static void wayBackOfZero() {
        Simplespan x = Check.plan(3);
        x.bound(1, 2, 7, 0);
        x.bound(2, 3, -9, 0);
        x.bound(3, 1, 2, 0);
        Check.due("a sum of 0", true, () -> x.isConsistent());
        distances("an event on a way back of 0", x, 2, 2, 0);
        x.bound(3, 1, 1, 0);
        Check.due("a sum of -1", false, () -> x.isConsistent());
        x.dropBound(3);
        Check.due("dropped again", true, () -> x.isConsistent());
        x.bound(3, 1, 1, -3);
        Check.due("of an open label", true, () -> x.isConsistent());
        x.observe(3, false);
        Check.due("of a false label", false, () -> x.isConsistent());
        Simplespan y = Check.plan(1);
        y.bound(0, 1, -500, 0);
        y.bound(1, 0, 500, 0);
        Check.due("500 less 500", true, () -> y.isConsistent());
        y.bound(1, 0, 499, 0);
        Check.due("499 less 500", false, () -> y.isConsistent());
    }

    private static void wayBackOverASpan() {
        Simplespan x = Check.plan(1);
        x.addSpan(0, 1, 3, 10);
        x.bound(0, 1, 3, 0);
        Check.due("at most the least length", true, () -> x.isConsistent());
        Edge.tried("one less", false, x, () -> {
            x.bound(0, 1, 2, 0);
            return x.isConsistent();
        });
        x.dropBound(0);
        x.bound(1, 0, -10, 0);
        Check.due("at least the greatest length", true, () -> x.isConsistent());
        x.bound(1, 0, -11, 0);
        Check.due("one more", false, () -> x.isConsistent());
    }

    private static void wayBackOverAStart() {
        Simplespan x = Check.plan(1);
        x.pass(7);
        x.start(1);
        x.bound(0, 1, 7, 0);
        x.bound(1, 0, -7, 0);
        Check.due("just its minute", true, () -> x.isConsistent());
        Edge.tried("a minute less", false, x, () -> {
            x.bound(0, 1, 6, 0);
            return x.isConsistent();
        });
        Edge.tried("a minute more", false, x, () -> {
            x.bound(1, 0, -8, 0);
            return x.isConsistent();
        });
    }

    private static void edgesThatAreThere() {
        Simplespan x = Check.plan(2);
        x.pass(4);
        noWay("minutes that pass are no edge", x, 0, 1);
        x.start(1);
        distances("an event that has started", x, 0, 1, 4);
        distances("and back", x, 1, 0, -4);
        x.addActivity(1, 2, 3);
        x.setCost(2, 50, 1, 1);
        noWay("activities and costs are no edges", x, 1, 2);
        x.addSpan(0, 2, 6, 8);
        distances("a span", x, 0, 2, 8);
        distances("and back", x, 2, 0, -6);
        x.pass(3);
        x.end(0);
        distances("a span that has ended", x, 0, 2, 7);
        distances("and back", x, 2, 0, -7);
    }

    // Promises 11 and 12

    private static void distanceEvents() {
        Simplespan x = Check.plan(3);
        for (int e = 0; e < 3; e++) {
            x.bound(e, e + 1, 1, 0);
            x.bound(e + 1, e, 1, 0);
        }
        Edge.range("from", x, 0, 3, Edge.NONE, n -> x.distance(n, 1));
        Edge.range("to", x, 0, 3, Edge.NONE, n -> x.distance(1, n));
        Edge.range("from, by rounds", x, 0, 3, Edge.NONE, n -> x.distanceByRounds(n, 1));
        Edge.range("to, by rounds", x, 0, 3, Edge.NONE, n -> x.distanceByRounds(1, n));
        for (int e = 0; e <= 3; e++) {
            distances("the same one", x, e, e, 0);
        }
    }

    private static void distanceWays() {
        Simplespan x = Check.plan(2);
        distances("to itself, without an edge", x, 2, 2, 0);
        noWay("no edge", x, 0, 1);
        x.bound(1, 0, 5, 0);
        noWay("an edge the other way", x, 0, 1);
        x.bound(0, 1, 5, 2);
        noWay("an edge of an open label", x, 0, 1);
        x.bound(2, 1, -5, 0);
        noWay("edges that meet", x, 0, 2);
        x.bound(1, 2, 8, 0);
        noWay("an edge behind it alone", x, 0, 2);
        x.observe(2, true);
        distances("a way", x, 0, 2, 13);
        x.dropBound(1);
        noWay("it was dropped", x, 0, 2);
    }

    private static void distanceOrder() {
        Simplespan x = Edge.broken(2);
        Check.refused("no such event, not consistent", Edge.NONE, x, () -> x.distance(0, 3));
        Check.refused("no such event, not consistent", Edge.NONE, x, () -> x.distanceByRounds(3, 0));
        Check.refused("no such event, not consistent", Edge.NONE, x, () -> x.isDirect(-1, 0));
        Check.refused("not consistent, no way", Edge.STATE, x, () -> x.distance(0, 2));
        Check.refused("not consistent, no way", Edge.STATE, x, () -> x.distanceByRounds(0, 2));
        Check.refused("not consistent, the same one", Edge.STATE, x, () -> x.distance(2, 2));
        Check.refused("not consistent, the same one", Edge.STATE, x, () -> x.distanceByRounds(2, 2));
        Check.refused("not consistent", Edge.STATE, x, () -> x.isDirect(0, 2));
        Check.refused("the same, not consistent", Edge.ILLEGAL, x, () -> x.isDirect(2, 2));
    }

    private static void distanceOfStarts() {
        Simplespan x = Check.plan(2);
        x.start(1);
        distances("started at the minute 0", x, 0, 1, 0);
        distances("and back", x, 1, 0, 0);
        x.pass(200);
        x.pass(200);
        x.pass(200);
        x.start(2);
        distances("started at the minute 600", x, 0, 2, 600);
        distances("and back", x, 2, 0, -600);
        distances("between both", x, 1, 2, 600);
    }

    private static void leastOfManyBounds() {
        Simplespan x = Check.plan(1);
        int[] most = {9, 7, 8, -3, -2, 500, -500};
        int[] least = {9, 7, 7, -3, -3, -3, -500};
        for (int i = 0; i < most.length; i++) {
            x.bound(0, 1, most[i], 0);
            distances("of several bounds the least one", x, 0, 1, least[i]);
        }
        x.dropBound(6);
        distances("without the least one", x, 0, 1, -3);
    }

    private static void leastOfManyWays() {
        Simplespan x = Check.plan(3);
        x.bound(0, 2, 5, 0);
        x.bound(0, 1, 3, 0);
        x.bound(1, 2, 4, 0);
        distances("the edge is less than the way over 1", x, 0, 2, 5);
        x.bound(2, 3, -4, 0);
        x.bound(0, 3, 2, 0);
        distances("the way over 2 is less than the edge", x, 0, 3, 1);
        x.bound(3, 1, 1, 0);
        distances("the way over 2 and 3 is less than the edge", x, 0, 1, 2);
        distances("a way back of 1 leads nowhere", x, 1, 1, 0);
        x.bound(1, 2, 3, 0);
        distances("a way back of 0", x, 2, 2, 0);
        distances("over it", x, 0, 2, 5);
        Simplespan y = Check.plan(9);
        for (int from = 0; from < 9; from++) {
            y.bound(from, from + 1, -1, 0);
            y.bound(from, 9, 9 - from, 0);
        }
        for (int from = 0; from < 9; from++) {
            distances("over all that are between", y, from, 9, from - 9);
        }
    }

    private static void longestWays() {
        Simplespan x = Check.plan(9);
        for (int e = 0; e < 9; e++) {
            x.bound(e, e + 1, 500, 0);
        }
        distances("a way over all events", x, 0, 9, 4500);
        for (int e = 0; e < 9; e++) {
            x.bound(e + 1, e, -500, 0);
        }
        distances("and back", x, 9, 0, -4500);
        distances("to itself", x, 9, 9, 0);
        Check.due("ways back of 0", true, () -> x.isConsistent());
        Simplespan y = Check.plan(9);
        for (int e = 9; e > 0; e--) {
            y.bound(e, e - 1, 500, 0);
        }
        distances("a way by falling numbers", y, 9, 0, 4500);
    }

    // Promise 13

    private static void directEdges() {
        Simplespan x = Check.plan(3);
        x.bound(0, 3, 1, 0);
        x.bound(3, 1, 1, 0);
        Edge.outside("from", x, 0, 3, Edge.NONE, n -> x.isDirect(n, 1));
        Edge.outside("to", x, 0, 3, Edge.NONE, n -> x.isDirect(1, n));
        for (int e = 0; e <= 3; e++) {
            int event = e;
            Check.refused("both are " + e, Edge.ILLEGAL, x, () -> x.isDirect(event, event));
        }
        Check.refused("no such event, the same", Edge.NONE, x, () -> x.isDirect(4, 4));
        Check.due("0 to 3", true, () -> x.isDirect(0, 3));
        Check.due("0 to 1, over 3", false, () -> x.isDirect(0, 1));
        Check.due("no distance", false, () -> x.isDirect(1, 0));
        Check.due("no distance", false, () -> x.isDirect(0, 2));
        Check.due("no distance", false, () -> x.isDirect(2, 1));
    }

    private static void directThird() {
        Simplespan x = Check.plan(3);
        x.bound(0, 1, 10, 0);
        x.bound(0, 2, 4, 0);
        x.bound(2, 1, 7, 0);
        Check.due("over the third one is longer", true, () -> x.isDirect(0, 1));
        x.bound(2, 1, 6, 0);
        Check.due("over the third one is as long", false, () -> x.isDirect(0, 1));
        x.bound(2, 1, 5, 0);
        Check.due("over the third one is shorter", false, () -> x.isDirect(0, 1));
        x.bound(0, 1, 8, 0);
        Check.due("then the edge is the distance", true, () -> x.isDirect(0, 1));
        Simplespan y = Check.plan(2);
        y.bound(0, 1, 5, 0);
        y.bound(1, 0, -5, 0);
        Check.due("the first and the second event are no third one", true, () -> y.isDirect(0, 1));
        y.bound(1, 2, 0, 0);
        y.bound(2, 1, 0, 0);
        Check.due("one at the same time is", false, () -> y.isDirect(0, 1));
    }

    /** Each event can be the third one of two others. */
    private static void directThirdOfAll() {
        for (int i = 0; i < 720; i++) {
            int from = i / 72;
            int to = (from + 1 + i / 8 % 9) % 10;
            int third = i % 8;
            third += third >= Math.min(from, to) ? 1 : 0;
            third += third >= Math.max(from, to) ? 1 : 0;
            Simplespan x = Check.plan(9);
            x.bound(from, third, 3, 0);
            x.bound(third, to, 4, 0);
            String what = " from " + from + " over " + third + " to " + to;
            distances("distance" + what, x, from, to, 7);
            Check.due("isDirect" + what, false, () -> x.isDirect(from, to));
            x.bound(from, to, 6, 0);
            distances("distance, shorter" + what, x, from, to, 6);
            Check.due("isDirect, shorter" + what, true, () -> x.isDirect(from, to));
        }
    }

    // Promises 14 and 15

    private static void conflictEdges() {
        Simplespan x = Check.plan(1);
        Check.refused("consistent", Edge.STATE, x, () -> x.conflictSize());
        x.bound(0, 1, 5, 0);
        x.bound(1, 0, -5, 0);
        Check.refused("a way back of 0", Edge.STATE, x, () -> x.conflictSize());
        Check.refused("a way back of 0", Edge.STATE, x, () -> x.conflictAt(0));
        x.bound(1, 0, -6, 0);
        Check.due("a way back of -1", 2, () -> x.conflictSize());
        Edge.range("index", x, 0, 1, Edge.INDEX, n -> x.conflictAt(n));
        Check.due("the lower number", 0, () -> x.conflictAt(0));
        Check.due("the greater number", 2, () -> x.conflictAt(1));
        x.dropBound(1);
        Check.due("a bound that is not in it was dropped", 2, () -> x.conflictSize());
        x.dropBound(2);
        Check.refused("consistent again", Edge.STATE, x, () -> x.conflictSize());
        Check.refused("consistent again", Edge.STATE, x, () -> x.conflictAt(0));
    }

    /** Of several conflicts, the one is told whose bounds come last by rising numbers. */
    private static void conflictByRisingNumbers() {
        Simplespan x = Check.plan(3);
        x.bound(1, 2, 5, 0);
        x.bound(2, 1, -6, 0);
        x.bound(1, 3, 5, 0);
        x.bound(3, 1, -6, 0);
        x.bound(2, 1, -7, 0);
        Check.due("left out for good: 0, then 1", 2, () -> x.conflictSize());
        Check.due("conflictAt", 2, () -> x.conflictAt(0));
        Check.due("conflictAt", 3, () -> x.conflictAt(1));
        x.bound(1, 2, 6, 0);
        Check.due("left out for good: 0, 1, 2 and 3", 2, () -> x.conflictSize());
        Check.due("conflictAt", 4, () -> x.conflictAt(0));
        Check.due("conflictAt", 5, () -> x.conflictAt(1));
        x.dropBound(4);
        Check.due("a dropped bound is not looked at", 2, () -> x.conflictAt(0));
        x.bound(1, 2, -500, 1);
        Check.due("nor one that does not hold", 3, () -> x.conflictAt(1));
        x.dropBound(3);
        Check.due("the first two are left", 0, () -> x.conflictAt(0));
        x.observe(1, true);
        Check.due("now it holds", 2, () -> x.conflictSize());
        Check.due("now it holds", 1, () -> x.conflictAt(0));
        Check.due("now it holds", 6, () -> x.conflictAt(1));
    }

    private static void conflictOfAll() {
        Simplespan x = Check.plan(9);
        for (int e = 0; e < 10; e++) {
            x.bound(e, (e + 1) % 10, e == 9 ? -46 : 5, 0);
        }
        Check.due("a way back over all events", 10, () -> x.conflictSize());
        Edge.range("index", x, 0, 9, Edge.INDEX, n -> x.conflictAt(n));
        for (int i = 0; i < 10; i++) {
            int index = i;
            Check.due("conflictAt", index, () -> x.conflictAt(index));
        }
        Simplespan y = Check.plan(1);
        Edge.fillBounds(y, 0, 38);
        y.bound(0, 1, -1, 0);
        y.bound(1, 0, 0, 0);
        Check.due("the last ones of 40", 2, () -> y.conflictSize());
        Check.due("conflictAt", 38, () -> y.conflictAt(0));
        Check.due("conflictAt", 39, () -> y.conflictAt(1));
    }

    private static void conflictWithSpanAndStart() {
        Simplespan x = Check.plan(2);
        x.addSpan(0, 1, 3, 10);
        x.bound(0, 1, 10, 0);
        x.bound(0, 1, 2, 0);
        Check.due("with a span one bound is enough", 1, () -> x.conflictSize());
        Check.due("conflictAt", 1, () -> x.conflictAt(0));
        Edge.outside("index", x, 0, 0, Edge.INDEX, n -> x.conflictAt(n));
        x.dropBound(1);
        x.pass(5);
        x.start(2);
        x.bound(0, 2, 4, 0);
        Check.due("with a start one bound is enough", 1, () -> x.conflictSize());
        Check.due("conflictAt", 2, () -> x.conflictAt(0));
    }

    private static void conflictWhateverIsAsked() {
        Simplespan x = Check.plan(1);
        x.bound(0, 1, 5, 1);
        x.bound(0, 1, 4, -1);
        x.bound(1, 0, -5, 0);
        x.bound(1, 0, -6, 2);
        x.observe(1, false);
        Check.due("not consistent", false, () -> x.isConsistent());
        Check.due("it would be if the label 1 were true", true, () -> x.isPossible(1, 0));
        Check.due("the conflict is that of now", 2, () -> x.conflictSize());
        Check.due("not if the label 2 were true too", false, () -> x.isPossible(3, 0));
        Check.due("conflictAt", 1, () -> x.conflictAt(0));
        Check.due("conflictAt", 2, () -> x.conflictAt(1));
    }

    private static void conflictOrder() {
        Simplespan x = Check.plan(1);
        Check.refused("consistent, and no such index", Edge.STATE, x, () -> x.conflictAt(-1));
        Check.refused("consistent, and no such index", Edge.STATE, x, () -> x.conflictAt(Integer.MAX_VALUE));
        Simplespan y = Edge.broken(1);
        Check.refused("no such index", Edge.INDEX, y, () -> y.conflictAt(2));
    }

    // Promise 48

    private static void meanSlackEdges() {
        Simplespan x = Check.plan(3);
        x.bound(1, 0, -5, 0);
        Check.refused("no distance from the event 0", Edge.ARITHMETIC, x, () -> x.meanSlack());
        x.bound(0, 1, 5, 0);
        Check.due("a distance that is the first time", 0.0, () -> x.meanSlack());
        x.bound(0, 2, 0, 0);
        Check.due("a distance of 0", 0.0, () -> x.meanSlack());
        x.bound(0, 3, 1, 0);
        Check.due("one of three", 1.0 / 3.0, () -> x.meanSlack());
        x.bound(0, 2, -3, 0);
        Check.due("a distance less than 0, a first time of 0", -2.0 / 3.0, () -> x.meanSlack());
        Simplespan y = new Simplespan();
        Check.refused("the event 0 does not count", Edge.ARITHMETIC, y, () -> y.meanSlack());
        Simplespan z = Check.plan(9);
        for (int e = 1; e < 10; e++) {
            z.bound(0, e, e == 9 ? 499 : 500, 0);
        }
        Check.due("all nine", 4499.0 / 9.0, () -> z.meanSlack());
    }

    private static void meanSlackOrder() {
        Simplespan x = Check.plan(2);
        x.bound(1, 2, 0, 0);
        x.bound(2, 1, -1, 0);
        Check.refused("not consistent, and no distance", Edge.STATE, x, () -> x.meanSlack());
        x.bound(0, 1, 9, 0);
        Check.refused("not consistent", Edge.STATE, x, () -> x.meanSlack());
    }
}
