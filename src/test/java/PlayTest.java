/** Promises 22 to 25: plans played out. */
public final class PlayTest {
    public static void main(String[] args) {
        plain();
        waiting();
        chain();
        order();
        notStarted();
        lastMinute();
        notKept();
        states();
        playedAt();
        Check.end();
    }

    private static void starts(String what, Simplespan x, int... minutes) {
        for (int e = 0; e < minutes.length; e++) {
            int event = e;
            Check.due(what + ": playedAt " + e, minutes[e], () -> x.playedAt(event));
        }
    }

    private static void plain() {
        Simplespan x = new Simplespan();
        Check.state("never played out", () -> x.playedAt(0));
        Check.due("the event 0 alone", 0, () -> x.play(0));
        starts("alone", x, 0);
        Simplespan y = Check.plan(3);
        y.bound(1, 0, -5, 0);
        y.bound(2, 1, -3, 0);
        y.bound(1, 2, 7, 0);
        Check.due("play", 8, () -> y.play(0));
        starts("as early as can be", y, 0, 5, 8, 0);
        Check.due("failure", '-', () -> y.failure(0));
        Check.due("isKept", true, () -> y.isKept());
    }

    private static void waiting() {
        Simplespan x = Check.plan(2);
        x.addSpan(0, 1, 3, 10);
        x.bound(2, 1, 1, 0);
        x.bound(1, 2, 2, 0);
        Check.due("the end is seen", 3, () -> x.play(0));
        starts("least", x, 0, 3, 3);
        Check.due("the wait is over", 10, () -> x.play(1));
        starts("greatest", x, 0, 10, 9);
        Check.due("isKept", true, () -> x.isKept());
        Check.refused("picks 2", IllegalArgumentException.class, x, () -> x.play(2));
        Check.refused("picks -1", IllegalArgumentException.class, x, () -> x.play(-1));
        Check.refused("picks 2", IllegalArgumentException.class, x, () -> x.failure(2));
        Check.refused("picks -1", IllegalArgumentException.class, x, () -> x.failure(-1));
        starts("as it was played last", x, 0, 10, 9);
    }

    private static void chain() {
        Simplespan x = Check.plan(5);
        x.addSpan(1, 2, 4, 6);
        x.addSpan(3, 4, 10, 20);
        x.addSpan(0, 5, 7, 9);
        x.bound(1, 0, -2, 0);
        x.bound(3, 2, -1, 0);
        int[][] due = {{0, 2, 6, 7, 17, 7}, {1, 2, 8, 9, 19, 7}, {2, 2, 6, 7, 27, 7}, {3, 2, 8, 9, 29, 7},
            {4, 2, 6, 7, 17, 9}, {7, 2, 8, 9, 29, 9}};
        for (int[] row : due) {
            Check.due("play " + row[0], row[4], () -> x.play(row[0]));
            starts("picks " + row[0], x, 0, row[1], row[2], row[3], row[4], row[5]);
        }
        Check.illegal("play", () -> x.play(8));
    }

    /** A start can free an event with a lower number in the same minute. */
    private static void order() {
        Simplespan x = Check.plan(4);
        x.bound(1, 2, -2, 0);
        x.bound(2, 3, 0, 0);
        x.bound(3, 4, -1, 0);
        Check.due("play", 3, () -> x.play(0));
        starts("order", x, 0, 3, 1, 1, 0);
    }

    private static void notStarted() {
        Simplespan x = Check.plan(2);
        x.bound(0, 1, -5, 0);
        Check.due("isSeen", true, () -> x.isSeen());
        Check.due("its window ends ahead of the minute 0", 'm', () -> x.failure(0));
        Check.due("isKept", false, () -> x.isKept());
        Check.refused("play", UnsupportedOperationException.class, x, () -> x.play(0));
        Check.state("it was not played out without failing", () -> x.playedAt(0));
    }

    private static void lastMinute() {
        Simplespan x = Check.plan(2);
        x.bound(1, 0, -300, 0);
        x.bound(2, 1, -300, 0);
        Check.due("the minute 600", 600, () -> x.play(0));
        x.bound(2, 1, -301, 0);
        Check.due("behind it", 'm', () -> x.failure(0));
        Check.unsupported("play", () -> x.play(0));
        Check.due("as it was played last", 600, () -> x.playedAt(2));
        Simplespan y = Check.plan(2);
        y.addSpan(1, 2, 100, 200);
        y.bound(1, 0, -401, 0);
        Check.due("an end at 501", 501, () -> y.play(0));
        Check.due("an end at 601", 'm', () -> y.failure(1));
        Check.due("isKept", false, () -> y.isKept());
        y.dropBound(0);
        y.bound(1, 0, -400, 0);
        Check.due("an end at 600", 600, () -> y.play(1));
        Check.due("isKept", true, () -> y.isKept());
    }

    /** The values let the first event of a span start ahead of the minute 0, which playing out does not. */
    private static void notKept() {
        for (String row : NOT_KEPT) {
            String[] parts = row.split(" ");
            Simplespan x = Check.plan(Integer.parseInt(parts[0]));
            for (int i = 2; i < parts.length; i++) {
                tell(x, parts[i].split(","));
            }
            int picks = Integer.parseInt(parts[1]);
            Check.due("isSeen", true, () -> x.isSeen());
            Check.due("failure", 'b', () -> x.failure(picks));
            Check.due("isKept", false, () -> x.isKept());
            Check.refused("play", UnsupportedOperationException.class, x, () -> x.play(picks));
        }
    }

    /** The events, the picks, and what is told: s for a span, b for a bound. */
    private static final String[] NOT_KEPT = {
        "2 1 s,1,2,1,5 b,0,2,3",
        "2 1 s,1,2,1,8 b,0,2,2",
        "4 2 s,0,4,23,33 s,1,2,1,10 b,4,2,-15"};

    private static void tell(Simplespan x, String[] numbers) {
        int[] n = new int[numbers.length - 1];
        for (int i = 1; i < numbers.length; i++) {
            n[i - 1] = Integer.parseInt(numbers[i]);
        }
        if (numbers[0].equals("s")) {
            x.addSpan(n[0], n[1], n[2], n[3]);
        } else {
            x.bound(n[0], n[1], n[2], 0);
        }
    }

    private static void states() {
        Class<IllegalStateException> state = IllegalStateException.class;
        Simplespan x = Check.plan(2);
        x.addSpan(0, 1, 3, 10);
        x.bound(2, 0, -4, 0);
        Check.due("pass", 4, () -> x.pass(4));
        Check.due("minutes that have passed do not count", 4, () -> x.play(0));
        Check.due("now", 4, () -> x.now());
        Check.due("playing out starts nothing", "throws.IllegalStateException", () -> x.startedAt(2));
        x.open();
        x.start(2);
        Check.refused("an event has started", state, x, () -> x.play(0));
        Check.refused("an event has started", state, x, () -> x.failure(1));
        Check.refused("an event has started", state, x, () -> x.isKept());
        Check.illegal("picks go ahead", () -> x.play(2));
        x.takeBack();
        Check.due("taken back", '-', () -> x.failure(1));
        x.end(0);
        Check.refused("a span has ended", state, x, () -> x.play(0));
        Simplespan y = Check.plan(1);
        y.addSpan(0, 1, 3, 10);
        y.bound(0, 1, 6, 0);
        Check.refused("not as it is seen", state, y, () -> y.play(0));
        Check.refused("not as it is seen", state, y, () -> y.failure(1));
        Check.refused("not as it is seen", state, y, () -> y.isKept());
        Check.illegal("picks go ahead", () -> y.failure(2));
    }

    private static void playedAt() {
        Simplespan x = Check.plan(1);
        x.bound(1, 0, -4, 0);
        Check.refused("never", IllegalStateException.class, x, () -> x.playedAt(1));
        Check.due("asking is not playing out", '-', () -> x.failure(0));
        Check.due("asking is not playing out", true, () -> x.isKept());
        Check.refused("never", IllegalStateException.class, x, () -> x.playedAt(1));
        Check.due("play", 4, () -> x.play(0));
        x.addEvent();
        starts("added since", x, 0, 4);
        Check.state("added since", () -> x.playedAt(2));
        Check.noSuch("no such event", () -> x.playedAt(3));
        Check.noSuch("no such event", () -> x.playedAt(-1));
        x.open();
        x.bound(2, 1, -1, 0);
        Check.due("play", 5, () -> x.play(0));
        starts("all", x, 0, 4, 5);
        x.bound(0, 1, 3, 0);
        Check.state("not consistent", () -> x.play(0));
        starts("it stays", x, 0, 4, 5);
        x.takeBack();
        Check.state("taken back", () -> x.playedAt(2));
        starts("taken back", x, 0, 4);
    }
}
