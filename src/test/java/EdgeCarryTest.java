/** Promises 26 to 33: a test for each sentence that names a boundary case. */
public final class EdgeCarryTest {
    public static void main(String[] args) {
        reasonEvents();
        reasonStarted();
        reasonEndOfSpan();
        reasonAnotherAhead();
        reasonWait();
        reasonWaitOfZero();
        reasonWindow();
        reasonsInTheirOrder();
        windowEdges();
        windowOfManyStarts();
        windowUntold();
        windowOfEnds();
        startOnce();
        startRefused();
        startOrder();
        startMinutes();
        endSpans();
        endLengths();
        endOrder();
        endWhateverIsPlanned();
        passMinutes();
        passSpans();
        passUntil600();
        passOrder();
        nowAndStartedAt();
        Check.end();
    }

    private static void letter(String what, Simplespan x, int event, char want) {
        Check.due(what, want, () -> x.reason(event));
        if (want == '-') {
            Edge.tried(what + ": start", x.now(), x, () -> x.start(event));
        } else {
            Check.refused(what + ": start", Edge.UNSUPPORTED, x, () -> x.start(event));
        }
    }

    // Promise 26

    private static void reasonEvents() {
        Simplespan x = Check.plan(2);
        Edge.range("event", x, 0, 2, Edge.NONE, n -> x.reason(n));
        Simplespan y = Edge.unseen(1);
        Check.refused("not as it is seen", Edge.STATE, y, () -> y.reason(1));
        Check.refused("not as it is seen, it has started", Edge.STATE, y, () -> y.reason(0));
        Check.refused("no such event, not as it is seen", Edge.NONE, y, () -> y.reason(2));
        Simplespan z = Edge.broken(1);
        Check.refused("not consistent", Edge.STATE, z, () -> z.reason(1));
        Check.refused("no such event, not consistent", Edge.NONE, z, () -> z.reason(-1));
    }

    private static void reasonStarted() {
        Simplespan x = Check.plan(2);
        letter("the event 0", x, 0, 's');
        letter("ahead of its start", x, 1, '-');
        x.start(1);
        letter("behind its start", x, 1, 's');
        x.addSpan(0, 2, 1, 5);
        x.pass(1);
        letter("an end that has not started", x, 2, 'n');
        x.end(0);
        letter("an end that has started", x, 2, 's');
    }

    private static void reasonEndOfSpan() {
        Simplespan x = Check.plan(3);
        letter("no end yet", x, 2, '-');
        x.addSpan(1, 2, 3, 5);
        letter("its span has not begun", x, 2, 'n');
        x.start(1);
        x.pass(3);
        letter("its span could end", x, 2, 'n');
        x.pass(2);
        letter("its span must end", x, 2, 'n');
        letter("another one", x, 3, '-');
    }

    private static void reasonAnotherAhead() {
        Simplespan x = Check.plan(3);
        x.bound(1, 2, 0, 0);
        letter("a value of 0 is not less than 0", x, 1, '-');
        x.bound(1, 2, -1, 0);
        letter("a value of -1 is", x, 1, 'b');
        letter("the other one", x, 2, '-');
        x.start(2);
        letter("it has started: 1 minute behind it", x, 1, 'e');
        x.pass(1);
        letter("a minute later", x, 1, '-');
        Simplespan y = Check.plan(3);
        y.bound(1, 2, 5, 0);
        y.bound(2, 3, -6, 0);
        letter("over another one -1", y, 1, 'b');
        y.start(3);
        letter("the event 2 is no reason, its minute is", y, 1, 'e');
    }

    /** The event 3 has a wait of 4 for a span from 3 to 10 whose first event is 1. */
    private static Simplespan waiting() {
        Simplespan x = Check.plan(3);
        x.addSpan(1, 2, 3, 10);
        x.bound(3, 2, 6, 0);
        return x;
    }

    private static void reasonWait() {
        Simplespan x = waiting();
        Check.due("waitFor", 4, () -> x.waitFor(3, 0));
        letter("the first event has not started", x, 3, 'w');
        x.pass(50);
        letter("nor has it 50 minutes later", x, 3, 'w');
        x.start(1);
        letter("0 of 4 minutes", x, 3, 'w');
        x.pass(3);
        letter("3 of 4 minutes", x, 3, 'w');
        x.open();
        x.end(0);
        letter("the span has ended", x, 3, '-');
        x.takeBack();
        x.pass(1);
        letter("4 of 4 minutes", x, 3, '-');
        x.pass(6);
        letter("10 of 4 minutes", x, 3, '-');
    }

    private static void reasonWaitOfZero() {
        Simplespan x = Check.plan(3);
        x.addSpan(1, 2, 3, 10);
        x.bound(3, 2, 10, 0);
        letter("an upper edge of 0 is no wait", x, 3, '-');
        Simplespan y = Check.plan(3);
        y.addSpan(1, 2, 3, 10);
        y.bound(3, 2, 9, 0);
        letter("one of -1 is a value too, and that goes ahead", y, 3, 'b');
        y.start(1);
        letter("0 of 1 minute", y, 3, 'w');
        y.pass(1);
        letter("1 of 1 minute", y, 3, '-');
    }

    private static void reasonWindow() {
        Simplespan x = Check.plan(1);
        x.bound(1, 0, -3, 0);
        x.bound(0, 1, 5, 0);
        String letters = "eee---ll";
        for (int minute = 0; minute < letters.length(); minute++) {
            letter("from 3 to 5, at " + minute, x, 1, letters.charAt(minute));
            x.pass(1);
        }
        Simplespan y = Check.plan(1);
        y.bound(0, 1, 0, 0);
        letter("at most 0", y, 1, '-');
        y.pass(1);
        letter("a minute behind", y, 1, 'l');
        Simplespan z = Check.plan(1);
        z.pass(200);
        z.pass(200);
        z.pass(200);
        letter("nothing tells the uppermost minute", z, 1, '-');
    }

    private static void reasonsInTheirOrder() {
        Simplespan x = Check.plan(5);
        x.addSpan(0, 1, 3, 10);
        x.bound(2, 1, 1, 0);
        x.bound(2, 3, -1, 0);
        x.bound(2, 0, -5, 0);
        x.bound(1, 4, -1, 0);
        letter("n goes ahead of b and e", x, 1, 'n');
        letter("b goes ahead of w and e", x, 2, 'b');
        x.start(3);
        letter("another one that must come ahead", x, 2, 'b');
        x.start(4);
        letter("w goes ahead of e", x, 2, 'w');
        letter("n goes ahead of w and e", x, 1, 'n');
        x.pass(9);
        letter("none is left", x, 2, '-');
        Simplespan y = waiting();
        y.bound(0, 3, 8, 0);
        y.bound(0, 1, 4, 0);
        y.pass(9);
        letter("w goes ahead of l", y, 3, 'w');
        letter("l", y, 1, 'l');
        Simplespan z = Check.plan(2);
        z.bound(0, 1, 5, 0);
        z.bound(1, 2, -1, 0);
        z.pass(9);
        letter("b goes ahead of l", z, 1, 'b');
    }

    // Promises 27 and 28

    private static void windowEdges() {
        Simplespan x = Check.plan(2);
        Edge.outside("event", x, 0, 2, Edge.NONE, n -> x.lowest(n));
        Edge.outside("event", x, 0, 2, Edge.NONE, n -> x.uppermost(n));
        Edge.taken("event 1", x, () -> x.lowest(1));
        Edge.taken("event 2", x, () -> x.uppermost(2));
        x.start(1);
        for (int e = 0; e <= 1; e++) {
            int event = e;
            Check.refused("it has started", Edge.STATE, x, () -> x.lowest(event));
            Check.refused("it has started", Edge.STATE, x, () -> x.uppermost(event));
        }
        Simplespan y = Edge.unseen(1);
        Check.refused("not as it is seen", Edge.STATE, y, () -> y.lowest(1));
        Check.refused("not as it is seen", Edge.STATE, y, () -> y.uppermost(1));
        Check.refused("no such event, not as it is seen", Edge.NONE, y, () -> y.lowest(2));
        Check.refused("no such event, not as it is seen", Edge.NONE, y, () -> y.uppermost(-1));
        Simplespan z = Edge.broken(2);
        Check.refused("not consistent", Edge.STATE, z, () -> z.lowest(2));
        Check.refused("not consistent, it has started", Edge.STATE, z, () -> z.uppermost(0));
    }

    private static void window(String what, Simplespan x, int event, int lowest, int uppermost) {
        Check.due(what + ": lowest", lowest, () -> x.lowest(event));
        Check.due(what + ": uppermost", uppermost, () -> x.uppermost(event));
    }

    private static void windowOfManyStarts() {
        Simplespan x = Check.plan(4);
        x.bound(3, 0, -10, 0);
        x.bound(3, 1, -4, 0);
        x.bound(3, 2, -2, 0);
        x.bound(0, 3, 60, 0);
        x.bound(1, 3, 40, 0);
        window("by the event 0 alone", x, 3, 10, 60);
        x.pass(5);
        x.start(1);
        window("5 and 4 is less than 10, 5 and 40 than 60", x, 3, 10, 45);
        x.pass(6);
        x.start(2);
        window("11 and 2 is more than 10", x, 3, 13, 45);
        x.bound(2, 3, 34, 0);
        window("11 and 34 is 45", x, 3, 13, 45);
        x.bound(2, 3, 33, 0);
        window("11 and 33 is less", x, 3, 13, 44);
        x.bound(4, 3, -30, 0);
        x.bound(3, 4, 31, 0);
        window("an event that has not started tells nothing", x, 3, 13, 44);
        window("it has its own window", x, 4, 43, 75);
    }

    private static void windowUntold() {
        Simplespan x = Check.plan(3);
        window("no value", x, 1, 0, 9999);
        x.bound(1, 0, -5, 0);
        window("at least 5", x, 1, 5, 9999);
        x.bound(2, 0, 5, 0);
        window("at least 0", x, 2, 0, 9999);
        x.bound(0, 3, 0, 0);
        window("at most 0", x, 3, 0, 0);
        x.pass(9);
        window("minutes that pass tell nothing", x, 1, 5, 9999);
        x.dropBound(2);
        window("it was dropped", x, 3, 0, 9999);
        x.bound(1, 2, 500, 0);
        x.start(1);
        window("behind a start at 9", x, 2, 0, 509);
    }

    private static void windowOfEnds() {
        Simplespan x = Check.plan(2);
        x.addSpan(1, 2, 3, 10);
        window("its first event has not started", x, 2, 0, 9999);
        x.pass(7);
        x.start(1);
        window("its first event has started at 7", x, 2, 10, 17);
        x.pass(3);
        x.end(0);
        Check.refused("it has ended", Edge.STATE, x, () -> x.lowest(2));
        Check.refused("it has ended", Edge.STATE, x, () -> x.uppermost(2));
    }

    // Promise 29

    private static void startOnce() {
        Simplespan x = Check.plan(2);
        Check.refused("the event 0 has started", Edge.UNSUPPORTED, x, () -> x.start(0));
        x.pass(4);
        Check.due("start", 4, () -> x.start(1));
        Check.refused("in the same minute", Edge.UNSUPPORTED, x, () -> x.start(1));
        x.pass(2);
        Check.refused("later", Edge.UNSUPPORTED, x, () -> x.start(1));
        Check.due("an event has at most one time", 4, () -> x.startedAt(1));
    }

    private static void startRefused() {
        Simplespan x = Check.plan(2);
        Edge.outside("event", x, 0, 2, Edge.NONE, n -> x.start(n));
        Edge.taken("event 1", x, () -> x.start(1));
        Edge.taken("event 2", x, () -> x.start(2));
        Simplespan y = Edge.unseen(2);
        Check.refused("not as it is seen", Edge.STATE, y, () -> y.start(2));
        y.dropBound(0);
        Check.due("now it is", 0, () -> y.start(2));
    }

    private static void startOrder() {
        Simplespan x = Edge.unseen(2);
        Check.refused("no such event, not as it is seen", Edge.NONE, x, () -> x.start(3));
        Check.refused("not as it is seen, it has started", Edge.STATE, x, () -> x.start(0));
        Check.refused("not as it is seen, the end of a span", Edge.STATE, x, () -> x.start(1));
        Simplespan y = Edge.broken(1);
        Check.refused("not consistent, no such event", Edge.NONE, y, () -> y.start(-1));
        Check.refused("not consistent, it has started", Edge.STATE, y, () -> y.start(0));
    }

    private static void startMinutes() {
        Simplespan x = Check.plan(9);
        Check.due("at the minute 0", 0, () -> x.start(9));
        x.pass(1);
        Check.due("at the minute 1", 1, () -> x.start(1));
        Check.due("another one in the same minute", 1, () -> x.start(2));
        x.pass(199);
        x.pass(200);
        x.pass(200);
        Check.due("at the minute 600", 600, () -> x.start(3));
        int[] minutes = {0, 1, 1, 600};
        for (int e = 0; e < minutes.length; e++) {
            int event = e;
            Check.due("startedAt " + e, minutes[e], () -> x.startedAt(event));
        }
    }

    // Promise 30

    private static void endSpans() {
        Simplespan x = Check.plan(6);
        Edge.outside("no span", x, 0, -1, Edge.NONE, n -> x.end(n));
        x.addSpan(0, 1, 2, 9);
        x.addSpan(0, 2, 3, 9);
        x.addSpan(3, 4, 1, 9);
        x.pass(3);
        Edge.outside("span", x, 0, 2, Edge.NONE, n -> x.end(n));
        Check.refused("its first event has not started", Edge.STATE, x, () -> x.end(2));
        Check.due("the span 0", 3, () -> x.end(0));
        Check.refused("it has ended", Edge.STATE, x, () -> x.end(0));
        Check.due("the span 1", 3, () -> x.end(1));
        Check.due("startedAt", 3, () -> x.startedAt(1));
        Check.due("startedAt", 3, () -> x.startedAt(2));
    }

    private static void endLengths() {
        Simplespan x = Check.plan(3);
        x.addSpan(1, 2, 3, 5);
        x.pass(20);
        Check.refused("20 minutes, but not started", Edge.STATE, x, () -> x.end(0));
        x.start(1);
        Check.refused("0 of 3", Edge.UNSUPPORTED, x, () -> x.end(0));
        x.pass(2);
        Check.refused("2 of 3", Edge.UNSUPPORTED, x, () -> x.end(0));
        for (int length = 3; length <= 5; length++) {
            int minutes = length;
            x.pass(1);
            Edge.tried("length " + length, minutes, x, () -> x.end(0));
        }
        Check.refused("6 of 5", Edge.UNSUPPORTED, x, () -> x.pass(1));
        Check.due("end", 5, () -> x.end(0));
        Check.due("startedAt", 25, () -> x.startedAt(2));
        Simplespan y = Check.plan(1);
        y.addSpan(0, 1, 7, 7);
        y.pass(6);
        Check.refused("one length: a minute too soon", Edge.UNSUPPORTED, y, () -> y.end(0));
        y.pass(1);
        Check.due("one length", 7, () -> y.end(0));
    }

    private static void endOrder() {
        Simplespan x = Check.plan(2);
        x.addSpan(1, 2, 3, 5);
        Check.refused("not started, and no length of it", Edge.STATE, x, () -> x.end(0));
        x.start(1);
        Check.refused("started, and no length of it", Edge.UNSUPPORTED, x, () -> x.end(0));
        x.pass(3);
        x.end(0);
        x.pass(3);
        Check.refused("ended, and no length of it", Edge.STATE, x, () -> x.end(0));
        Check.refused("no such span", Edge.NONE, x, () -> x.end(1));
    }

    /** Nature asks neither the bounds nor the reductions. */
    private static void endWhateverIsPlanned() {
        Simplespan x = Edge.unseen(1);
        x.pass(10);
        Check.due("not as it is seen", 10, () -> x.end(0));
        Check.due("the net is not consistent then", false, () -> x.isConsistent());
        Simplespan y = Edge.broken(3);
        y.addSpan(0, 2, 1, 5);
        y.pass(1);
        Check.due("not consistent", 1, () -> y.end(0));
    }

    // Promise 31

    private static void passMinutes() {
        Simplespan x = new Simplespan();
        Edge.range("minutes", x, 1, 200, Edge.ILLEGAL, n -> x.pass(n));
        Check.refused("0", Edge.ILLEGAL, x, () -> x.pass(0));
        Check.due("1", 1, () -> x.pass(1));
        Check.due("200", 201, () -> x.pass(200));
        Simplespan y = Edge.broken(1);
        Check.due("whatever the net", 9, () -> y.pass(9));
    }

    private static void passSpans() {
        Simplespan x = Check.plan(4);
        x.addSpan(1, 2, 3, 5);
        x.addSpan(0, 3, 3, 9);
        Check.due("a span that has not begun does not count", 8, () -> x.pass(8));
        Check.refused("10 of 9", Edge.UNSUPPORTED, x, () -> x.pass(2));
        Check.due("9 of 9", 9, () -> x.pass(1));
        Check.refused("10 of 9", Edge.UNSUPPORTED, x, () -> x.pass(1));
        x.end(1);
        Check.due("a span that has ended does not count", 10, () -> x.pass(1));
        x.start(1);
        Check.refused("6 of 5", Edge.UNSUPPORTED, x, () -> x.pass(6));
        Check.due("5 of 5", 15, () -> x.pass(5));
        Check.refused("6 of 5", Edge.UNSUPPORTED, x, () -> x.pass(1));
        Check.due("now", 15, () -> x.now());
    }

    private static void passUntil600() {
        Simplespan x = new Simplespan();
        x.pass(200);
        x.pass(200);
        Edge.tried("just to 600", 600, x, () -> x.pass(200));
        x.pass(1);
        Check.refused("601", Edge.STATE, x, () -> x.pass(200));
        Edge.tried("just to 600", 600, x, () -> x.pass(199));
        x.pass(199);
        Check.refused("601", Edge.STATE, x, () -> x.pass(1));
        Check.due("now", 600, () -> x.now());
    }

    private static void passOrder() {
        Simplespan x = Check.plan(1);
        x.pass(200);
        x.pass(200);
        x.pass(199);
        x.addSpan(0, 1, 1, 199);
        Check.refused("out of range, too long, and more than 600", Edge.ILLEGAL, x, () -> x.pass(201));
        Check.refused("out of range, and too long", Edge.ILLEGAL, x, () -> x.pass(0));
        Check.refused("too long, and more than 600", Edge.UNSUPPORTED, x, () -> x.pass(2));
        Check.refused("too long", Edge.UNSUPPORTED, x, () -> x.pass(1));
        Simplespan y = new Simplespan();
        y.pass(200);
        y.pass(200);
        y.pass(200);
        Check.refused("out of range, and more than 600", Edge.ILLEGAL, y, () -> y.pass(201));
        Check.refused("out of range, and more than 600", Edge.ILLEGAL, y, () -> y.pass(Integer.MAX_VALUE));
        Check.refused("more than 600", Edge.STATE, y, () -> y.pass(1));
    }

    // Promises 32 and 33

    private static void nowAndStartedAt() {
        Simplespan x = Check.plan(2);
        Check.due("now", 0, () -> x.now());
        Edge.outside("event", x, 0, 2, Edge.NONE, n -> x.startedAt(n));
        Check.due("the event 0", 0, () -> x.startedAt(0));
        Check.refused("it has not", Edge.STATE, x, () -> x.startedAt(1));
        x.addSpan(0, 2, 1, 5);
        x.pass(3);
        Check.due("now", 3, () -> x.now());
        Check.refused("its span has not ended", Edge.STATE, x, () -> x.startedAt(2));
        x.end(0);
        Check.due("its span has ended", 3, () -> x.startedAt(2));
        Check.refused("another one has not", Edge.STATE, x, () -> x.startedAt(1));
    }
}
