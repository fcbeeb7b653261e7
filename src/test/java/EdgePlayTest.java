import java.util.Random;

/** Promises 22 to 25: a test for each sentence that names a boundary case. */
public final class EdgePlayTest {
    public static void main(String[] args) {
        picksOfSpans();
        picksByTheirSpans();
        orderOfExceptions();
        somethingCarriedOut();
        minutesThatHavePassed();
        lastEvent();
        endsStartFirst();
        lowestNumberThatCan();
        waitsToTheMinute();
        untilTheMinute600();
        endAtTheMinute600();
        neverStarted();
        boundNotKept();
        notStartedGoesAhead();
        boundsThatHold();
        keptForAllSums();
        seenIsKept();
        playedAtEvents();
        playedAtLast();
        playedAtInFrames();
        Check.end();
    }

    private static void playedAt(String what, Simplespan x, int... minutes) {
        for (int e = 0; e < minutes.length; e++) {
            int event = e;
            Check.due(what + ", event " + e, minutes[e], () -> x.playedAt(event));
        }
    }

    // Promises 22 and 23: the sum of picks

    private static void picksOfSpans() {
        for (int spans = 0; spans <= 3; spans++) {
            Simplespan x = Check.plan(4);
            for (int s = 0; s < spans; s++) {
                x.addSpan(0, s + 1, 2, 5);
            }
            int greatest = (1 << spans) - 1;
            Edge.range("play, spans " + spans, x, 0, greatest, Edge.ILLEGAL, n -> x.play(n));
            Edge.range("failure, spans " + spans, x, 0, greatest, Edge.ILLEGAL, n -> x.failure(n));
        }
    }

    private static void picksByTheirSpans() {
        Simplespan x = Check.plan(3);
        x.addSpan(0, 1, 2, 5);
        x.addSpan(0, 2, 3, 7);
        x.addSpan(0, 3, 4, 9);
        for (int sum = 0; sum < 8; sum++) {
            int picks = sum;
            int one = (sum & 1) != 0 ? 5 : 2;
            int two = (sum & 2) != 0 ? 7 : 3;
            int three = (sum & 4) != 0 ? 9 : 4;
            Check.due("play " + sum, Math.max(one, Math.max(two, three)), () -> x.play(picks));
            playedAt("play " + sum, x, 0, one, two, three);
        }
    }

    private static void orderOfExceptions() {
        Simplespan x = Edge.unseen(1);
        for (int sum : new int[] {-1, 2}) {
            Check.refused("out of range, not as it is seen", Edge.ILLEGAL, x, () -> x.play(sum));
            Check.refused("out of range, not as it is seen", Edge.ILLEGAL, x, () -> x.failure(sum));
        }
        Check.refused("not as it is seen", Edge.STATE, x, () -> x.play(1));
        Check.refused("not as it is seen", Edge.STATE, x, () -> x.failure(1));
        Check.refused("not as it is seen", Edge.STATE, x, () -> x.isKept());
        Simplespan y = late(601);
        y.addEvent();
        Check.refused("it fails", Edge.UNSUPPORTED, y, () -> y.play(0));
        y.start(3);
        Check.refused("out of range, carried out, and it fails", Edge.ILLEGAL, y, () -> y.play(1));
        Check.refused("carried out, and it would fail", Edge.STATE, y, () -> y.play(0));
        Check.refused("carried out", Edge.STATE, y, () -> y.failure(0));
        Simplespan z = Edge.broken(1);
        Check.refused("not consistent, out of range", Edge.ILLEGAL, z, () -> z.play(1));
        Check.refused("not consistent", Edge.STATE, z, () -> z.play(0));
    }

    private static void somethingCarriedOut() {
        Simplespan x = Check.plan(2);
        x.addSpan(0, 1, 2, 5);
        x.open();
        x.start(2);
        Check.refused("an event has started at the minute 0", Edge.STATE, x, () -> x.play(0));
        Check.refused("an event has started at the minute 0", Edge.STATE, x, () -> x.failure(0));
        Check.refused("an event has started at the minute 0", Edge.STATE, x, () -> x.isKept());
        x.takeBack();
        Check.due("the start was taken back", 2, () -> x.play(0));
        x.pass(2);
        x.end(0);
        Check.refused("a span has ended", Edge.STATE, x, () -> x.play(0));
        Check.refused("a span has ended", Edge.STATE, x, () -> x.failure(1));
        Check.refused("a span has ended", Edge.STATE, x, () -> x.isKept());
    }

    private static void minutesThatHavePassed() {
        Simplespan x = Check.plan(1);
        x.bound(1, 0, -3, 0);
        x.bound(0, 1, 5, 0);
        x.pass(200);
        x.pass(200);
        x.pass(200);
        Check.due("played out from the minute 0 on", 3, () -> x.play(0));
        playedAt("played out from the minute 0 on", x, 0, 3);
        Check.due("failure", '-', () -> x.failure(0));
        Check.due("isKept", true, () -> x.isKept());
        Check.due("the minute is as it was", 600, () -> x.now());
        Check.refused("nothing has started", Edge.STATE, x, () -> x.startedAt(1));
    }

    private static void lastEvent() {
        Simplespan x = new Simplespan();
        Check.due("the event 0 alone", 0, () -> x.play(0));
        x.addEvent();
        Check.due("all at the minute 0", 0, () -> x.play(0));
        x.addEvent();
        x.bound(1, 0, -7, 0);
        Check.due("the last one is not the one with the greatest number", 7, () -> x.play(0));
        playedAt("not the greatest number", x, 0, 7, 0);
    }

    private static void endsStartFirst() {
        Simplespan x = Check.plan(2);
        x.addSpan(0, 1, 3, 10);
        x.bound(2, 1, 0, 0);
        Check.due("in the minute of the end", 3, () -> x.play(0));
        playedAt("in the minute of the end", x, 0, 3, 3);
        Check.due("in the minute of the end", 10, () -> x.play(1));
        playedAt("in the minute of the end", x, 0, 10, 10);
        x.bound(2, 1, -1, 0);
        Check.due("a minute behind the end", 4, () -> x.play(0));
        playedAt("a minute behind the end", x, 0, 3, 4);
        Simplespan y = Check.plan(4);
        y.addSpan(0, 1, 2, 2);
        y.addSpan(1, 2, 3, 3);
        y.addSpan(2, 3, 4, 4);
        Check.due("one behind the other, on the minute", 9, () -> y.play(0));
        playedAt("one behind the other", y, 0, 2, 5, 9, 0);
    }

    private static void lowestNumberThatCan() {
        Simplespan x = Check.plan(3);
        x.bound(1, 2, 0, 0);
        x.bound(2, 1, 0, 0);
        x.bound(1, 3, -2, 0);
        x.bound(3, 0, -1, 0);
        Check.due("the event 3 first, the others behind it", 3, () -> x.play(0));
        playedAt("the event 3 first", x, 0, 3, 3, 1);
        Simplespan y = Check.plan(9);
        for (int e = 1; e < 9; e++) {
            y.bound(e, e + 1, -1, 0);
        }
        Check.due("each behind the next one", 8, () -> y.play(0));
        playedAt("each behind the next one", y, 0, 8, 7, 6, 5, 4, 3, 2, 1, 0);
    }

    private static void waitsToTheMinute() {
        Simplespan x = Check.plan(3);
        x.addSpan(1, 2, 3, 10);
        x.bound(1, 0, -6, 0);
        x.bound(3, 2, 4, 0);
        x.bound(2, 3, 9, 0);
        Check.due("waitFor", 6, () -> x.waitFor(3, 0));
        Check.due("the end comes ahead of the wait", 9, () -> x.play(0));
        playedAt("the end comes ahead of the wait", x, 0, 6, 9, 9);
        Check.due("the wait is over ahead of the end", 16, () -> x.play(1));
        playedAt("the wait is over ahead of the end", x, 0, 6, 16, 12);
    }

    /** The event 1 comes at least so many minutes behind the event 0. */
    private static Simplespan late(int minute) {
        Simplespan x = Check.plan(1);
        x.addEvent();
        x.bound(1, 2, -300, 0);
        x.bound(2, 0, 300 - minute, 0);
        return x;
    }

    private static void untilTheMinute600() {
        Simplespan x = late(600);
        Check.due("at the minute 600", 600, () -> x.play(0));
        Check.due("at the minute 600", '-', () -> x.failure(0));
        Check.due("at the minute 600", true, () -> x.isKept());
        Simplespan y = late(601);
        Check.due("at the minute 601", 'm', () -> y.failure(0));
        Check.due("at the minute 601", false, () -> y.isKept());
        Check.refused("at the minute 601", Edge.UNSUPPORTED, y, () -> y.play(0));
    }

    private static void endAtTheMinute600() {
        for (int first = 399; first <= 401; first++) {
            Simplespan x = Check.plan(3);
            x.addSpan(1, 2, 199, 200);
            x.bound(1, 0, -first, 0);
            x.bound(3, 2, 0, 0);
            int begin = first;
            Check.due("the least length", begin + 199, () -> x.play(0));
            playedAt("the least length", x, 0, begin, begin + 199, begin + 199);
            boolean isOver = first + 200 > 600;
            Check.due("the greatest length from " + first, isOver ? 'm' : '-', () -> x.failure(1));
            Check.due("isKept from " + first, !isOver, () -> x.isKept());
            Check.due("play from " + first, isOver ? "throws.UnsupportedOperationException" : begin + 200,
                () -> x.play(1));
        }
    }

    private static void neverStarted() {
        Simplespan x = Check.plan(2);
        x.bound(0, 1, -1, 0);
        x.bound(2, 1, -1, 0);
        Check.due("it would come ahead of the minute 0", 'm', () -> x.failure(0));
        Check.due("isKept", false, () -> x.isKept());
        Check.refused("play", Edge.UNSUPPORTED, x, () -> x.play(0));
        Simplespan y = Check.plan(3);
        y.addSpan(1, 2, 3, 10);
        y.bound(1, 0, -500, 0);
        y.bound(3, 2, 6, 0);
        Check.due("the first event of its wait starts in time", '-', () -> y.failure(0));
        y.bound(1, 3, 200, 0);
        y.bound(3, 0, -500, 0);
        y.addEvent();
        y.bound(1, 4, -101, 0);
        y.bound(4, 0, -500, 0);
        Check.due("it starts behind the minute 600", 'm', () -> y.failure(0));
    }

    /** The event 1 could be in time ahead of the minute 0 alone: the values do not tell, the bound is not kept. */
    private static Simplespan tooLong(int greatest) {
        Simplespan x = Check.plan(2);
        x.addSpan(1, 2, 1, greatest);
        x.bound(0, 2, 3, 0);
        return x;
    }

    private static void boundNotKept() {
        Simplespan x = tooLong(3);
        Check.due("3 is at most 3", '-', () -> x.failure(1));
        Check.due("3 is at most 3", true, () -> x.isKept());
        Simplespan y = tooLong(4);
        Check.due("-1 is not less than -1: a value tells it", 'm', () -> y.failure(1));
        Check.due("so it would not start either", 'm', () -> y.failure(0));
        Simplespan z = tooLong(5);
        Check.due("-2 is: 5 is more than 3", 'b', () -> z.failure(1));
        Check.due("the least length fits", '-', () -> z.failure(0));
        Check.due("isKept", false, () -> z.isKept());
        Check.due("play", 1, () -> z.play(0));
        Check.refused("it fails", Edge.UNSUPPORTED, z, () -> z.play(1));
        playedAt("as it was played last without failing", z, 0, 0, 1);
    }

    private static void notStartedGoesAhead() {
        Simplespan x = tooLong(5);
        Check.due("a bound", 'b', () -> x.failure(1));
        x.addEvent();
        x.bound(0, 3, -1, 0);
        Check.due("an event, and a bound", 'm', () -> x.failure(1));
        Check.due("an event", 'm', () -> x.failure(0));
    }

    private static void boundsThatHold() {
        Simplespan x = tooLong(5);
        x.bound(0, 2, 3, 1);
        Check.due("it holds", 'b', () -> x.failure(1));
        x.dropBound(0);
        Check.due("the other one's label is open", '-', () -> x.failure(1));
        x.observe(1, true);
        Check.due("it is true", 'b', () -> x.failure(1));
        x.dropBound(1);
        Check.due("it was dropped", '-', () -> x.failure(1));
    }

    // Promise 25

    private static void keptForAllSums() {
        for (int failing = 0; failing < 3; failing++) {
            Simplespan x = Check.plan(6);
            for (int s = 0; s < 3; s++) {
                x.addSpan(2 * s + 1, 2 * s + 2, 1, 5);
                x.bound(0, 2 * s + 2, 5, 0);
            }
            Check.due("each sum is kept", true, () -> x.isKept());
            int span = failing;
            x.bound(0, 2 * span + 2, 3, 0);
            for (int sum = 0; sum < 8; sum++) {
                int picks = sum;
                boolean isLong = (sum & (1 << span)) != 0;
                Check.due("failure " + sum, isLong ? 'b' : '-', () -> x.failure(picks));
            }
            Check.due("some are not", false, () -> x.isKept());
        }
        Simplespan y = new Simplespan();
        Check.due("without a span there is one sum", true, () -> y.isKept());
    }

    /** Whatever nature picks, a plan that can be controlled as it is seen keeps each bound: none is ahead of 0. */
    private static void seenIsKept() {
        Random random = new Random(5);
        int seen = 0;
        int mustSee = 0;
        for (int i = 0; i < 20000; i++) {
            Simplespan x = anyPlan(random);
            if (x.isSeen()) {
                seen++;
                mustSee += x.isStrong() ? 0 : 1;
                int number = i;
                Check.due("isKept of the plan " + number, true, () -> x.isKept());
            }
        }
        Check.same("enough plans that can be controlled", "true", String.valueOf(seen > 5000 && mustSee > 10));
    }

    private static Simplespan anyPlan(Random random) {
        Simplespan x = new Simplespan();
        int events = 2 + random.nextInt(6);
        for (int e = 1; e <= events; e++) {
            x.addEvent();
            x.bound(e, 0, 0, 0);
        }
        for (int s = 0; s < 1 + random.nextInt(3); s++) {
            int from = random.nextInt(events);
            int to = from + 1 + random.nextInt(events - from);
            int least = 1 + random.nextInt(8);
            int greatest = least + random.nextInt(8);
            Check.told(() -> x.addSpan(from, to, least, greatest));
        }
        for (int b = random.nextInt(8); b > 0; b--) {
            int from = random.nextInt(events + 1);
            int to = random.nextInt(events + 1);
            int most = random.nextInt(30) - 10;
            Check.told(() -> x.bound(from, to, most, 0));
        }
        return x;
    }

    // Promise 24

    private static void playedAtEvents() {
        Simplespan x = Check.plan(2);
        Check.refused("never, and no such event", Edge.NONE, x, () -> x.playedAt(3));
        Check.refused("never, and no such event", Edge.NONE, x, () -> x.playedAt(-1));
        for (int e = 0; e <= 2; e++) {
            int event = e;
            Check.refused("never", Edge.STATE, x, () -> x.playedAt(event));
        }
        x.play(0);
        Edge.range("event", x, 0, 2, Edge.NONE, n -> x.playedAt(n));
        x.addEvent();
        Check.refused("added since", Edge.STATE, x, () -> x.playedAt(3));
        Check.due("not added since", 0, () -> x.playedAt(2));
        Check.refused("no such event", Edge.NONE, x, () -> x.playedAt(4));
        x.play(0);
        Check.due("played out since", 0, () -> x.playedAt(3));
    }

    private static void playedAtLast() {
        Simplespan x = Check.plan(1);
        x.addSpan(0, 1, 2, 5);
        x.play(1);
        x.failure(0);
        x.isKept();
        playedAt("asking is not playing out", x, 0, 5);
        x.play(0);
        playedAt("the last one", x, 0, 2);
        x.bound(0, 1, 4, 0);
        Check.refused("not as it is seen", Edge.STATE, x, () -> x.play(1));
        playedAt("it stays", x, 0, 2);
        x.dropBound(0);
        x.pass(3);
        x.end(0);
        playedAt("carrying out is not playing out", x, 0, 2);
        Check.refused("carried out", Edge.STATE, x, () -> x.play(1));
        playedAt("it stays", x, 0, 2);
    }

    private static void playedAtInFrames() {
        Simplespan x = Check.plan(1);
        x.addSpan(0, 1, 2, 5);
        x.open();
        x.play(1);
        playedAt("in a frame", x, 0, 5);
        x.takeBack();
        Check.refused("taken back: never", Edge.STATE, x, () -> x.playedAt(1));
        x.play(0);
        x.open();
        x.play(1);
        x.addEvent();
        x.play(1);
        playedAt("in a frame", x, 0, 5, 0);
        x.takeBack();
        playedAt("taken back", x, 0, 2);
        x.addEvent();
        Check.refused("added since it was taken back", Edge.STATE, x, () -> x.playedAt(2));
    }
}
