/** What is answered does not depend on the numbers that events, bounds, spans, activities and labels happen to have. */
public final class EachNumberTest {
    private static final int EVENTS = 10;

    public static void main(String[] args) {
        for (int first = 0; first < EVENTS; first++) {
            for (int end = first + 1; end < EVENTS; end++) {
                for (int other = 0; other < EVENTS; other++) {
                    if (other != first && other != end) {
                        placed(first, end, other);
                    }
                }
                placedPairs(first, end);
            }
        }
        boundNumbers();
        boundNumbersPlayed();
        eventsThatStart();
        eventsThatCost();
        labels();
        activities();
        Check.end();
    }

    private static void placed(int first, int end, int other) {
        String where = " (" + first + " to " + end + ", and " + other + ")";
        waits(where, first, end, other);
        if (other != 0) {
            playsOut(where, first, end, other);
        }
        reducesLower(where, first, end, other);
        freesUpper(where, first, end, other);
        if (other > end) {
            spansInARow(where, first, end, other);
        }
    }

    private static void judged(String what, Simplespan x, boolean weak, boolean strong, boolean seen) {
        Check.due(what + ": isWeak", weak, () -> x.isWeak());
        Check.due(what + ": isStrong", strong, () -> x.isStrong());
        Check.due(what + ": isSeen", seen, () -> x.isSeen());
    }

    /** The other event comes from 1 minute ahead of the end of a span to so many minutes behind it. */
    private static Simplespan around(int first, int end, int other, int behind) {
        Simplespan x = Check.plan(EVENTS - 1);
        x.addSpan(first, end, 3, 10);
        x.bound(other, end, 1, 0);
        x.bound(end, other, behind, 0);
        return x;
    }

    private static void waits(String where, int first, int end, int other) {
        Simplespan x = around(first, end, other, 2);
        judged("it must see the end" + where, x, true, false, true);
        Check.due("rounds" + where, 1, () -> x.rounds());
        Check.due("waitFor" + where, 9, () -> x.waitFor(other, 0));
        Check.due("waitFor, the end" + where, 10, () -> x.waitFor(end, 0));
        Check.unsupported("waitFor, the first event" + where, () -> x.waitFor(first, 0));
        Check.due("reduced" + where, -2, () -> x.reduced(other, first));
        Check.due("reduced, back" + where, 12, () -> x.reduced(first, other));
        judged("9 to 9" + where, around(first, end, other, 6), true, true, true);
        judged("9 to 8" + where, around(first, end, other, 5), true, false, true);
        x.bound(first, other, 8, 0);
        judged("it cannot wait" + where, x, false, false, false);
        Simplespan y = around(first, end, other, 2);
        y.bound(end, other, -2, 0);
        Check.due("not consistent" + where, false, () -> y.isConsistent());
        Check.due("the conflict" + where, 2, () -> y.conflictSize());
    }

    private static void playsOut(String where, int first, int end, int other) {
        Simplespan x = around(first, end, other, 2);
        Check.due("reason of the other" + where, first == 0 ? 'w' : 'b', () -> x.reason(other));
        Check.due("reason of the end" + where, 'n', () -> x.reason(end));
        Check.due("isKept" + where, true, () -> x.isKept());
        Check.due("play, greatest" + where, 10, () -> x.play(1));
        Check.due("the other" + where, 9, () -> x.playedAt(other));
        Check.due("play, least" + where, 3, () -> x.play(0));
        Check.due("the other" + where, 3, () -> x.playedAt(other));
        Check.due("the end" + where, 3, () -> x.playedAt(end));
        Check.due("the first event" + where, 0, () -> x.playedAt(first));
        x.pass(2);
        if (first != 0) {
            Check.due("start" + where, 2, () -> x.start(first));
        }
        Check.due("pass" + where, 8 + (first == 0 ? 0 : 2), () -> x.pass(first == 0 ? 6 : 8));
        Check.due("8 minutes of 9" + where, 'w', () -> x.reason(other));
        Check.due("end" + where, 8, () -> x.end(0));
        Check.due("the end was seen" + where, '-', () -> x.reason(other));
        Check.due("lowest" + where, first == 0 ? 7 : 9, () -> x.lowest(other));
        Check.due("uppermost" + where, first == 0 ? 10 : 12, () -> x.uppermost(other));
        Check.due("start" + where, first == 0 ? 8 : 10, () -> x.start(other));
        judged("all have started" + where, x, true, true, true);
    }

    private static void reducesLower(String where, int first, int end, int other) {
        Simplespan x = Check.plan(EVENTS - 1);
        x.addSpan(first, end, 8, 20);
        x.bound(end, other, -5, 0);
        x.bound(other, first, 0, 0);
        judged("3 behind the first event" + where, x, true, true, true);
        Check.due("by the least length" + where, 3, () -> x.reduced(first, other));
        Check.due("distance" + where, 15, () -> x.distance(first, other));
        Check.due("rounds" + where, 1, () -> x.rounds());
        x.open();
        int next = another(first, end, other);
        x.bound(other, next, 7, 0);
        Check.due("and on from there" + where, 10, () -> x.reduced(first, next));
        Check.due("its distance" + where, 22, () -> x.distance(first, next));
        Check.due("one round more" + where, 2, () -> x.rounds());
        x.takeBack();
        x.bound(other, first, -4, 0);
        Check.due("isConsistent" + where, true, () -> x.isConsistent());
        judged("4 behind it" + where, x, false, false, false);
        Check.due("the first round is counted" + where, 1, () -> x.rounds());
    }

    private static int another(int first, int end, int other) {
        int next = 0;
        while (next == first || next == end || next == other) {
            next++;
        }
        return next;
    }

    private static void freesUpper(String where, int first, int end, int other) {
        Simplespan x = Check.plan(EVENTS - 1);
        x.addSpan(first, end, 3, 10);
        x.bound(other, end, 7, 0);
        Check.due("freed" + where, -3, () -> x.reduced(other, first));
        Check.due("its wait" + where, 3, () -> x.waitFor(other, 0));
        Check.due("rounds" + where, 2, () -> x.rounds());
        judged("at least 3 behind" + where, x, true, true, true);
        x.bound(first, other, 2, 0);
        judged("at most 2 behind" + where, x, false, false, false);
        Check.due("rounds to the bad end" + where, 1, () -> x.rounds());
    }

    private static void spansInARow(String where, int first, int end, int other) {
        Simplespan x = Check.plan(EVENTS - 1);
        x.addSpan(end, other, 5, 9);
        x.addSpan(first, end, 4, 4);
        judged("one length, then five" + where, x, true, true, true);
        Simplespan y = Check.plan(EVENTS - 1);
        y.addSpan(first, end, 4, 5);
        y.addSpan(end, other, 5, 9);
        judged("two lengths, then five" + where, y, true, true, false);
        Check.due("rounds" + where, 2, () -> y.rounds());
        y.bound(first, other, 14, 0);
        judged("5 and 9 at most" + where, y, true, true, false);
        y.bound(first, other, 13, 0);
        judged("13 at most" + where, y, false, false, false);
    }

    /** Two spans beside one another, in both orders in which they can be told. */
    private static void placedPairs(int first, int end) {
        for (int second = 0; second < EVENTS; second++) {
            for (int last = second + 1; last < EVENTS; last++) {
                if (second != first && second != end && last != first && last != end) {
                    String where = " (" + first + " to " + end + ", " + second + " to " + last + ")";
                    goesAcross(where, new int[] {first, end, second, last});
                    endsBadly(where, new int[] {first, end, second, last});
                }
            }
        }
    }

    private static void goesAcross(String where, int[] events) {
        for (int told = 0; told < 2; told++) {
            Simplespan x = Check.plan(EVENTS - 1);
            addTwo(x, told, events);
            x.bound(events[3], events[1], 20, 0);
            Check.due("0 goes across, and is freed" + where, 4, () -> x.reduced(events[2], events[0]));
            Check.due("rounds" + where, 4, () -> x.rounds());
            Simplespan y = Check.plan(EVENTS - 1);
            addTwo(y, told, events);
            y.bound(events[3], events[1], 15, 0);
            int number = told;
            Check.due("a wait of 1 is left" + where, 1, () -> y.waitFor(events[2], number));
            Check.due("the second span's own" + where, 6, () -> y.waitFor(events[3], 1 - number));
            y.bound(events[1], events[3], 100, 0);
            y.bound(events[0], events[2], 0, 0);
            judged("at the same minute it cannot wait" + where, y, false, false, false);
        }
    }

    /** The first span must not end ahead of the second one, which may begin 2 minutes ahead of it at most. */
    private static void endsBadly(String where, int[] events) {
        Simplespan x = Check.plan(EVENTS - 1);
        addTwo(x, 0, events);
        x.bound(events[1], events[3], 0, 0);
        x.bound(events[2], events[0], 2, 0);
        Check.due("isConsistent" + where, true, () -> x.isConsistent());
        judged("3 is less than 6 - 2" + where, x, false, false, false);
        Check.due("behind the first round" + where, 1, () -> x.rounds());
    }

    private static void addTwo(Simplespan x, int told, int[] events) {
        if (told == 1) {
            x.addSpan(events[2], events[3], 4, 6);
        }
        x.addSpan(events[0], events[1], 3, 20);
        if (told == 0) {
            x.addSpan(events[2], events[3], 4, 6);
        }
    }

    /** The same two bounds behind so many others. */
    private static void boundNumbers() {
        for (int number = 0; number <= 38; number++) {
            String what = "bound " + number;
            Simplespan x = Check.plan(2);
            x.addSpan(0, 1, 3, 10);
            Edge.fillBounds(x, 0, number);
            x.bound(2, 1, 1, 0);
            x.bound(1, 2, 5, 0);
            judged(what, x, true, false, true);
            Check.due(what + ", distance", 1, () -> x.distance(2, 1));
            Check.due(what + ", distance back", 5, () -> x.distance(1, 2));
            Check.due(what + ", distanceByRounds", 5, () -> x.distanceByRounds(1, 2));
            int told = number;
            Edge.tried(what + ", those that hold", told + 1, x, () -> x.dropBound(told));
            Edge.tried(what + ", dropped", true, x, () -> {
                x.dropBound(told);
                return x.isStrong();
            });
            Edge.tried(what + ", the next one dropped", true, x, () -> {
                x.dropBound(told + 1);
                return x.isStrong();
            });
            Simplespan y = Check.plan(2);
            Edge.fillBounds(y, 0, number);
            y.bound(2, 1, 4, 0);
            y.bound(1, 2, -5, 0);
            Check.due(what + ", isConsistent", false, () -> y.isConsistent());
            Check.due(what + ", conflictSize", 2, () -> y.conflictSize());
            Check.due(what + ", conflictAt", told, () -> y.conflictAt(0));
            Check.due(what + ", conflictAt", told + 1, () -> y.conflictAt(1));
            judged(what + ", not consistent", y, false, false, false);
        }
    }

    /** A bound that is not kept: the first event of the span could be in time ahead of the minute 0 alone. */
    private static void boundNumbersPlayed() {
        for (int number = 0; number <= 39; number++) {
            Simplespan x = Check.plan(2);
            x.addSpan(1, 2, 1, 5);
            Edge.fillBounds(x, 0, number);
            x.bound(0, 2, 3, 0);
            Check.due("bound " + number + ", kept", '-', () -> x.failure(0));
            Check.due("bound " + number + ", not kept", 'b', () -> x.failure(1));
            Check.due("bound " + number + ", isKept", false, () -> x.isKept());
        }
    }

    private static void eventsThatStart() {
        for (int e = 1; e < EVENTS; e++) {
            int event = e;
            Simplespan x = Check.plan(EVENTS - 1);
            x.pass(7);
            Check.due("start " + e, 7, () -> x.start(event));
            Check.due("startedAt " + e, 7, () -> x.startedAt(event));
            Check.due("firstTime " + e, 7, () -> x.firstTime(event));
            Check.due("reason " + e, 's', () -> x.reason(event));
            Check.refused("play " + e, Edge.STATE, x, () -> x.play(0));
            Check.refused("failure " + e, Edge.STATE, x, () -> x.failure(0));
            Check.refused("isKept " + e, Edge.STATE, x, () -> x.isKept());
            for (int o = 1; o < EVENTS; o++) {
                int other = o;
                if (other != event) {
                    Check.state("not started " + o, () -> x.startedAt(other));
                    Check.due("reason " + o, '-', () -> x.reason(other));
                }
            }
        }
    }

    private static void eventsThatCost() {
        Simplespan x = Check.plan(EVENTS - 1);
        long sum = 0;
        for (int e = 0; e < EVENTS; e++) {
            int event = e;
            Check.due("costOf " + e + ", no due minute", 0, () -> x.costOf(event, 999));
            Check.due("setCost " + e, -1, () -> x.setCost(event, 100 + event, 1 + event, 20 + event));
            Check.due("costOf " + e + ", early", 100 * (1 + event), () -> x.costOf(event, event));
            Check.due("costOf " + e + ", late", 3 * (20 + event), () -> x.costOf(event, 103 + event));
            Check.due("costOf " + e + ", due", 0, () -> x.costOf(event, 100 + event));
            sum += (100 + e) * (1 + e);
            long due = sum;
            Check.due("cost, events 0 to " + e, due, () -> x.cost());
        }
        for (int e = 0; e < EVENTS; e++) {
            int event = e;
            Check.due("setCost " + e + " once more", 100 + event, () -> x.setCost(event, 0, 0, 0));
        }
        Check.due("due at once", 0L, () -> x.cost());
    }

    private static void labels() {
        for (int number = -4; number <= 4; number++) {
            int label = number;
            for (int other = 1; other <= 4 && label != 0; other++) {
                int observed = other;
                Simplespan x = Check.plan(1);
                x.bound(0, 1, 5, label);
                boolean isIt = observed == Math.abs(label);
                String what = "a bound of " + label + ", the label " + observed;
                Edge.tried(what + " true", isIt && label > 0 ? 1 : 0, x, () -> x.observe(observed, true));
                Edge.tried(what + " false", isIt && label < 0 ? 1 : 0, x, () -> x.observe(observed, false));
                x.bound(1, 0, -6, 0);
                int sum = 1 << (observed - 1);
                Check.due(what + " would be true", !(isIt && label > 0), () -> x.isPossible(sum, 0));
                Check.due(what + " would be false", !(isIt && label < 0), () -> x.isPossible(0, sum));
            }
        }
    }

    private static void activities() {
        for (int one = 0; one < 5; one++) {
            for (int other = 0; other < 5; other++) {
                if (one != other) {
                    orders(one, other);
                }
            }
        }
    }

    /** Of five activities these two are on at the same minutes; the first one cannot wait for the other one. */
    private static void orders(int one, int other) {
        Simplespan x = Check.plan(4);
        x.bound(2, 1, -5, 0);
        x.bound(4, 3, -5, 0);
        x.bound(1, 0, 0, 0);
        x.bound(3, 0, 0, 0);
        x.bound(0, 1, 4, 0);
        for (int a = 0; a < 5; a++) {
            if (a == one) {
                x.addActivity(1, 2, 5);
            } else if (a == other) {
                x.addActivity(3, 4, 6);
            } else {
                x.addActivity(2, 1, 9);
            }
        }
        String what = "the activities " + one + " and " + other;
        Check.due(what + ", use", 11, () -> x.use(4));
        Check.due(what + ", peak", 0, () -> x.peak());
        Check.due(what + ", peakSet", (1 << one) + (1 << other), () -> x.peakSet());
        Check.due(what + ", slack", 9999, () -> x.slack(one, other));
        Check.due(what + ", slack of the other order", -1, () -> x.slack(other, one));
        Check.due(what + ", level", 1, () -> x.level());
        Check.due(what + ", the other one waits", 5, () -> x.firstTime(3));
        Check.refused(what + ", no peak", Edge.NONE, x, () -> x.peak());
    }
}
