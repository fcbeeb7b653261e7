import java.util.NoSuchElementException;

/** Promises 26 to 33: carrying out. */
public final class CarryTest {
    public static void main(String[] args) {
        reasons();
        windows();
        starts();
        startWaits();
        shortWait();
        ends();
        passes();
        lateStart();
        badly();
        Check.end();
    }

    private static Simplespan lettered() {
        Simplespan x = Check.plan(6);
        x.addSpan(0, 1, 3, 10);
        x.bound(2, 1, 1, 0);
        x.bound(1, 2, 2, 0);
        x.bound(3, 2, -1, 0);
        x.bound(4, 0, -5, 0);
        x.bound(0, 5, 6, 0);
        return x;
    }

    private static void letters(Simplespan x, String letters) {
        for (int e = 0; e < letters.length(); e++) {
            int event = e;
            Check.due("reason at " + x.now() + " of " + e, letters.charAt(e), () -> x.reason(event));
        }
    }

    private static void reasons() {
        Simplespan x = lettered();
        letters(x, "snwbw--");
        x.pass(4);
        letters(x, "snwbw--");
        x.pass(1);
        letters(x, "snwb---");
        x.pass(2);
        letters(x, "snwb-l-");
        x.pass(2);
        letters(x, "sn-b-l-");
        Check.due("start", 9, () -> x.start(2));
        Check.state("nature could still pick a length that is past", () -> x.reason(4));
        x.pass(1);
        Check.due("end", 10, () -> x.end(0));
        letters(x, "sssb-l-");
        Check.refused("no such event", NoSuchElementException.class, x, () -> x.reason(7));
        Check.refused("no such event", NoSuchElementException.class, x, () -> x.reason(-1));
        Simplespan y = lettered();
        y.pass(3);
        y.end(0);
        letters(y, "ss-be--");
        Check.unsupported("its wait is over with the span", () -> y.waitFor(4, 0));
    }

    private static void windows() {
        Simplespan x = lettered();
        Check.due("lowest", 5, () -> x.lowest(4));
        Check.due("uppermost", 9999, () -> x.uppermost(4));
        Check.due("at least 0", 0, () -> x.lowest(5));
        Check.due("uppermost", 6, () -> x.uppermost(5));
        Check.due("nothing is told", 0, () -> x.lowest(6));
        Check.due("nothing is told", 9999, () -> x.uppermost(6));
        Check.due("the end of a span", 3, () -> x.lowest(1));
        Check.due("the end of a span", 10, () -> x.uppermost(1));
        Class<NoSuchElementException> none = NoSuchElementException.class;
        Class<IllegalStateException> state = IllegalStateException.class;
        Check.refused("no such event", none, x, () -> x.lowest(7));
        Check.refused("no such event", none, x, () -> x.uppermost(-1));
        Check.refused("it has started", state, x, () -> x.lowest(0));
        Check.refused("it has started", state, x, () -> x.uppermost(0));
        x.pass(2);
        x.start(6);
        x.bound(6, 4, 8, 0);
        Check.due("uppermost", 10, () -> x.uppermost(4));
        x.bound(4, 6, -7, 0);
        Check.due("lowest", 9, () -> x.lowest(4));
        Simplespan y = Check.plan(1);
        y.bound(0, 1, -5, 0);
        Check.due("uppermost less than 0", -5, () -> y.uppermost(1));
        Check.due("lowest", 0, () -> y.lowest(1));
        Check.due("reason", 'l', () -> y.reason(1));
        Simplespan z = Check.plan(2);
        z.bound(2, 1, -50, 0);
        Check.due("events that have not started tell nothing", 0, () -> z.lowest(2));
        Check.due("nor here", 9999, () -> z.uppermost(1));
    }

    private static void starts() {
        Simplespan x = lettered();
        Class<UnsupportedOperationException> against = UnsupportedOperationException.class;
        for (int e = 0; e <= 4; e++) {
            int event = e;
            Check.refused("start " + e, against, x, () -> x.start(event));
        }
        Check.refused("no such event", NoSuchElementException.class, x, () -> x.start(7));
        Check.refused("no such event", NoSuchElementException.class, x, () -> x.start(-1));
        Check.refused("startedAt", IllegalStateException.class, x, () -> x.startedAt(5));
        Check.refused("startedAt", NoSuchElementException.class, x, () -> x.startedAt(7));
        x.pass(4);
        Check.due("start", 4, () -> x.start(5));
        Check.due("startedAt", 4, () -> x.startedAt(5));
        Check.refused("it has started", against, x, () -> x.start(5));
        x.pass(2);
        Check.due("start", 6, () -> x.start(4));
        Check.due("startedAt", 4, () -> x.startedAt(5));
        Check.due("startedAt", 6, () -> x.startedAt(4));
        Check.due("the net knows it", 2, () -> x.distance(5, 4));
    }

    private static void startWaits() {
        Simplespan x = Check.plan(3);
        x.addSpan(1, 2, 3, 10);
        x.bound(3, 2, 1, 0);
        x.bound(2, 3, 2, 0);
        Check.due("the first event must come ahead", 'b', () -> x.reason(3));
        x.pass(20);
        Check.due("start", 20, () -> x.start(1));
        Check.due("its wait", 'w', () -> x.reason(3));
        x.pass(8);
        Check.due("8 of 9 minutes", 'w', () -> x.reason(3));
        x.pass(1);
        Check.due("9 of 9 minutes", '-', () -> x.reason(3));
        Check.due("start", 29, () -> x.start(3));
        Check.due("end", 9, () -> x.end(0));
        Check.due("startedAt", 29, () -> x.startedAt(2));
    }

    private static void shortWait() {
        Simplespan x = Check.plan(2);
        x.addSpan(0, 1, 1, 3);
        x.bound(2, 1, 2, 0);
        Check.due("a wait of 1", 1, () -> x.waitFor(2, 0));
        Check.due("counts", 'w', () -> x.reason(2));
        x.pass(1);
        Check.due("it is over", '-', () -> x.reason(2));
    }

    private static void ends() {
        Simplespan x = Check.plan(3);
        x.addSpan(0, 1, 3, 10);
        x.addSpan(2, 3, 1, 1);
        Class<UnsupportedOperationException> cannot = UnsupportedOperationException.class;
        Check.refused("no such span", NoSuchElementException.class, x, () -> x.end(2));
        Check.refused("no such span", NoSuchElementException.class, x, () -> x.end(-1));
        Check.refused("not started", IllegalStateException.class, x, () -> x.end(1));
        Check.refused("too soon", cannot, x, () -> x.end(0));
        x.pass(2);
        Check.refused("too soon", cannot, x, () -> x.end(0));
        x.pass(1);
        Check.due("end", 3, () -> x.end(0));
        Check.due("startedAt", 3, () -> x.startedAt(1));
        Check.due("reason", 's', () -> x.reason(1));
        Check.refused("it has ended", IllegalStateException.class, x, () -> x.end(0));
        x.start(2);
        Check.refused("too soon", cannot, x, () -> x.end(1));
        x.pass(1);
        Check.due("end", 1, () -> x.end(1));
        Simplespan y = Check.plan(1);
        y.addSpan(0, 1, 3, 10);
        y.bound(0, 1, 2, 0);
        y.pass(10);
        Check.due("a span ends whatever the net", 10, () -> y.end(0));
        Check.due("isConsistent", false, () -> y.isConsistent());
    }

    private static void passes() {
        Simplespan x = Check.plan(1);
        Check.refused("0", IllegalArgumentException.class, x, () -> x.pass(0));
        Check.refused("201", IllegalArgumentException.class, x, () -> x.pass(201));
        Check.refused("-1", IllegalArgumentException.class, x, () -> x.pass(-1));
        Check.refused("greatest int", IllegalArgumentException.class, x, () -> x.pass(Integer.MAX_VALUE));
        Check.due("200", 200, () -> x.pass(200));
        Check.due("now", 200, () -> x.now());
        Check.due("400", 400, () -> x.pass(200));
        Check.due("599", 599, () -> x.pass(199));
        Check.refused("601", IllegalStateException.class, x, () -> x.pass(2));
        Check.due("600", 600, () -> x.pass(1));
        Check.refused("601", IllegalStateException.class, x, () -> x.pass(1));
        x.addSpan(0, 1, 1, 9);
        Check.refused("a span goes ahead", UnsupportedOperationException.class, x, () -> x.pass(1));
        Simplespan y = Check.plan(1);
        y.addSpan(0, 1, 3, 10);
        Check.refused("11 of 10", UnsupportedOperationException.class, y, () -> y.pass(11));
        Check.due("10 of 10", 10, () -> y.pass(10));
        Check.refused("11 of 10", UnsupportedOperationException.class, y, () -> y.pass(1));
        y.end(0);
        Check.due("it has ended", 11, () -> y.pass(1));
    }

    private static void lateStart() {
        Simplespan x = Check.plan(2);
        x.bound(1, 2, 3, 0);
        x.bound(2, 1, -2, 0);
        x.pass(100);
        Check.due("start", 100, () -> x.start(1));
        Check.due("lowest", 102, () -> x.lowest(2));
        Check.due("uppermost", 103, () -> x.uppermost(2));
        Check.due("ahead of its window", 'e', () -> x.reason(2));
        x.pass(1);
        Check.refused("ahead of its window", UnsupportedOperationException.class, x, () -> x.start(2));
        x.pass(1);
        Check.due("in its window", '-', () -> x.reason(2));
        x.pass(1);
        Check.due("in its window", '-', () -> x.reason(2));
        x.pass(1);
        Check.due("reason", 'l', () -> x.reason(2));
        Check.refused("start", UnsupportedOperationException.class, x, () -> x.start(2));
    }

    private static void badly() {
        Simplespan x = Check.plan(2);
        x.addSpan(0, 1, 3, 10);
        x.bound(0, 1, 6, 0);
        Class<IllegalStateException> state = IllegalStateException.class;
        Check.refused("reason", state, x, () -> x.reason(2));
        Check.refused("reason of one that has started", state, x, () -> x.reason(0));
        Check.refused("lowest", state, x, () -> x.lowest(2));
        Check.refused("uppermost", state, x, () -> x.uppermost(2));
        Check.refused("start", state, x, () -> x.start(2));
        Check.noSuch("start", () -> x.start(3));
        Check.noSuch("reason", () -> x.reason(3));
        x.pass(5);
        x.end(0);
        Check.due("it can be started then", 5, () -> x.start(2));
    }
}
