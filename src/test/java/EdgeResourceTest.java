/** Promises 34 to 44: a test for each sentence that names a boundary case. */
public final class EdgeResourceTest {
    public static void main(String[] args) {
        activityEvents();
        activityNumbers();
        activityOrder();
        capacityEdges();
        firstTimeEvents();
        firstTimesAtLeastZero();
        useMinutes();
        onFromUntilAhead();
        neverOn();
        peakAboveCapacity();
        peakIsTheFirst();
        peakOrder();
        peakSetOfAll();
        slackEdges();
        slackAnswers();
        slackOrder();
        levelWithoutPeak();
        levelWithoutOrder();
        levelAtSlackZero();
        levelTakesGreatest();
        levelTies();
        levelGoesOn();
        levelUntil40Bounds();
        levelBehindTheMinute999();
        levelHasNoLabel();
        levelWhenNotSeen();
        levelRefused();
        setCostEdges();
        setCostOrder();
        costOfEdges();
        costSums();
        Check.end();
    }

    // Promise 34

    private static void activityEvents() {
        Simplespan x = Check.plan(3);
        Edge.range("from", x, 0, 3, Edge.NONE, n -> x.addActivity(n, 1, 1));
    }

    private static void activityNumbers() {
        Simplespan x = Check.plan(3);
        Edge.range("to", x, 0, 3, Edge.NONE, n -> x.addActivity(2, n, 1));
        Edge.range("demand", x, 1, 9, Edge.ILLEGAL, n -> x.addActivity(0, 1, n));
        for (int a = 0; a < 5; a++) {
            int number = a;
            Edge.outside("activities " + a, x, 0, a - 1, Edge.NONE, n -> x.slack(n, n));
            Check.due("the next number", number, () -> x.addActivity(3, 2, 9));
        }
        Check.refused("there are 5 activities", Edge.STATE, x, () -> x.addActivity(0, 1, 1));
        x.open();
        Check.refused("in a frame too", Edge.STATE, x, () -> x.addActivity(0, 1, 1));
        x.takeBack();
        Simplespan y = Check.plan(1);
        for (int a = 0; a < 4; a++) {
            y.addActivity(0, 1, 1);
        }
        y.open();
        Check.due("the fifth one in a frame", 4, () -> y.addActivity(0, 1, 1));
        y.takeBack();
        Check.due("its number is free again", 4, () -> y.addActivity(1, 0, 1));
    }

    private static void activityOrder() {
        Simplespan x = Check.plan(2);
        Check.refused("no such event, and the same", Edge.NONE, x, () -> x.addActivity(3, 3, 1));
        Check.refused("no such event, and demand", Edge.NONE, x, () -> x.addActivity(0, 3, 0));
        Check.refused("the same", Edge.ILLEGAL, x, () -> x.addActivity(0, 0, 1));
        Check.refused("the same", Edge.ILLEGAL, x, () -> x.addActivity(2, 2, 9));
        for (int a = 0; a < 5; a++) {
            x.addActivity(1, 2, 1);
        }
        Check.refused("no such event, and 5 activities", Edge.NONE, x, () -> x.addActivity(-1, 0, 1));
        Check.refused("no such event, and all else", Edge.NONE, x, () -> x.addActivity(3, 3, 10));
        Check.refused("the same, and 5 activities", Edge.ILLEGAL, x, () -> x.addActivity(1, 1, 1));
        Check.refused("demand, and 5 activities", Edge.ILLEGAL, x, () -> x.addActivity(1, 2, 10));
        Check.refused("5 activities", Edge.STATE, x, () -> x.addActivity(1, 2, 1));
    }

    // Promise 35

    private static void capacityEdges() {
        Simplespan x = new Simplespan();
        Edge.range("capacity", x, 0, 40, Edge.ILLEGAL, n -> x.setCapacity(n));
        Check.due("9 at first", 9, () -> x.setCapacity(0));
        Check.due("the capacity before", 0, () -> x.setCapacity(40));
        Check.refused("41", Edge.ILLEGAL, x, () -> x.setCapacity(41));
        Check.due("a refused one is none", 40, () -> x.setCapacity(40));
        Check.due("the same once more", 40, () -> x.setCapacity(1));
        Simplespan y = Edge.broken(1);
        Check.due("whatever the net", 9, () -> y.setCapacity(3));
    }

    // Promise 36

    private static void firstTimeEvents() {
        Simplespan x = Check.plan(3);
        Edge.range("event", x, 0, 3, Edge.NONE, n -> x.firstTime(n));
        Simplespan y = Edge.broken(2);
        for (int e = 0; e <= 2; e++) {
            int event = e;
            Check.refused("not consistent", Edge.STATE, y, () -> y.firstTime(event));
        }
        Check.refused("no such event, not consistent", Edge.NONE, y, () -> y.firstTime(3));
    }

    private static void firstTimesAtLeastZero() {
        Simplespan x = Check.plan(5);
        int[] most = {1, 0, -1, -500};
        for (int i = 0; i < most.length; i++) {
            x.bound(i + 1, 0, most[i], 0);
        }
        x.bound(0, 5, -7, 0);
        int[] due = {0, 0, 0, 1, 500, 0};
        for (int e = 0; e < due.length; e++) {
            int event = e;
            Check.due("firstTime " + e, due[e], () -> x.firstTime(event));
        }
        x.bound(5, 4, -500, 0);
        Check.due("no event can be that late: at most 7 ahead of the event 0", "throws.IllegalStateException",
            () -> x.firstTime(5));
        x.dropBound(4);
        Check.due("over another event", 1000, () -> x.firstTime(5));
    }

    // Promise 37

    private static void useMinutes() {
        Simplespan x = Check.plan(1);
        x.addActivity(0, 1, 3);
        Edge.range("minute", x, 0, 999, Edge.ILLEGAL, n -> x.use(n));
        Simplespan y = Edge.broken(1);
        Check.refused("not consistent", Edge.STATE, y, () -> y.use(0));
        Check.refused("out of range, not consistent", Edge.ILLEGAL, y, () -> y.use(-1));
        Check.refused("out of range, not consistent", Edge.ILLEGAL, y, () -> y.use(1000));
    }

    private static void uses(String what, Simplespan x, int... pairs) {
        for (int i = 0; i < pairs.length; i += 2) {
            int minute = pairs[i];
            Check.due(what + ", minute " + minute, pairs[i + 1], () -> x.use(minute));
        }
    }

    private static void onFromUntilAhead() {
        Simplespan x = Check.plan(4);
        x.bound(1, 0, -3, 0);
        x.bound(2, 0, -5, 0);
        x.addActivity(1, 2, 4);
        uses("from 3 until ahead of 5", x, 0, 0, 2, 0, 3, 4, 4, 4, 5, 0, 999, 0);
        x.addActivity(0, 1, 5);
        uses("from 0 until ahead of 3", x, 0, 5, 2, 5, 3, 4, 4, 4, 5, 0);
        x.bound(3, 0, -4, 0);
        x.addActivity(0, 3, 9);
        uses("all three", x, 0, 14, 2, 14, 3, 13, 4, 4, 5, 0);
        x.bound(4, 2, -500, 0);
        x.bound(4, 0, -500, 0);
        x.bound(3, 4, -495, 0);
        uses("until ahead of 1000", x, 4, 13, 5, 9, 998, 9, 999, 9);
    }

    private static void neverOn() {
        Simplespan x = Check.plan(3);
        x.bound(1, 0, -5, 0);
        x.bound(2, 0, -5, 0);
        x.addActivity(1, 2, 9);
        x.addActivity(1, 0, 9);
        x.addActivity(1, 3, 9);
        uses("its end is not behind its first event", x, 0, 0, 4, 0, 5, 0, 6, 0);
        x.setCapacity(0);
        Check.refused("so there is no peak", Edge.NONE, x, () -> x.peak());
        x.bound(2, 0, -6, 0);
        uses("for one minute", x, 4, 0, 5, 9, 6, 0);
        Check.due("a peak", 5, () -> x.peak());
    }

    // Promises 38 and 39

    /** The activities 0 to 2 have the demands 4, 3 and 2, from 0 to 3, 1 to 5 and 2 to 4. */
    private static Simplespan busy() {
        Simplespan x = Check.plan(6);
        int[] times = {0, 3, 1, 5, 2, 4};
        for (int i = 0; i < times.length; i++) {
            x.bound(i + 1, 0, -times[i], 0);
        }
        x.addActivity(1, 2, 4);
        x.addActivity(3, 4, 3);
        x.addActivity(5, 6, 2);
        return x;
    }

    private static void peakAboveCapacity() {
        Simplespan x = busy();
        uses("uses", x, 0, 4, 1, 7, 2, 9, 3, 5, 4, 3, 5, 0);
        Check.refused("9 is not greater than 9", Edge.NONE, x, () -> x.peak());
        Check.refused("9 is not greater than 9", Edge.NONE, x, () -> x.peakSet());
        x.setCapacity(8);
        Check.due("9 is greater than 8", 2, () -> x.peak());
        Check.due("all three are on", 7, () -> x.peakSet());
        x.setCapacity(7);
        Check.due("7 is not greater than 7", 2, () -> x.peak());
        x.setCapacity(6);
        Check.due("7 is greater than 6", 1, () -> x.peak());
        Check.due("two are on", 3, () -> x.peakSet());
        x.setCapacity(3);
        Check.due("4 is greater than 3", 0, () -> x.peak());
        Check.due("one is on", 1, () -> x.peakSet());
        x.setCapacity(0);
        Check.due("4 is greater than 0", 0, () -> x.peak());
        Simplespan y = new Simplespan();
        y.setCapacity(0);
        Check.refused("0 is not greater than 0", Edge.NONE, y, () -> y.peak());
        Check.refused("0 is not greater than 0", Edge.NONE, y, () -> y.peakSet());
    }

    private static void peakIsTheFirst() {
        Simplespan x = Check.plan(4);
        x.bound(1, 0, -30, 0);
        x.bound(2, 0, -40, 0);
        x.bound(3, 0, -10, 0);
        x.bound(4, 0, -20, 0);
        x.addActivity(1, 2, 9);
        x.addActivity(3, 4, 9);
        x.setCapacity(8);
        Check.due("not that of the lowest number", 10, () -> x.peak());
        Check.due("not that of the lowest number", 2, () -> x.peakSet());
        Check.due("the last minute ahead of it", 0, () -> x.use(9));
    }

    private static void peakOrder() {
        Simplespan x = Edge.broken(1);
        Check.refused("not consistent, and none", Edge.STATE, x, () -> x.peak());
        Check.refused("not consistent, and none", Edge.STATE, x, () -> x.peakSet());
        x.addActivity(0, 1, 9);
        x.setCapacity(0);
        Check.refused("not consistent", Edge.STATE, x, () -> x.peak());
        Check.refused("not consistent", Edge.STATE, x, () -> x.peakSet());
    }

    private static void peakSetOfAll() {
        Simplespan x = Check.plan(1);
        x.bound(1, 0, -1, 0);
        for (int a = 0; a < 5; a++) {
            x.addActivity(0, 1, 8);
        }
        x.setCapacity(39);
        Check.due("40 is greater than 39", 0, () -> x.peak());
        Check.due("all five", 31, () -> x.peakSet());
        x.setCapacity(40);
        Check.refused("40 is not greater than 40", Edge.NONE, x, () -> x.peak());
        Simplespan y = Check.plan(1);
        y.bound(1, 0, -1, 0);
        for (int a = 0; a < 5; a++) {
            y.addActivity(0, 1, 9);
        }
        y.setCapacity(40);
        Check.due("45 is greater than 40", 0, () -> y.peak());
        Check.due("use", 45, () -> y.use(0));
    }

    // Promise 40

    private static void slackEdges() {
        Simplespan x = busy();
        Edge.outside("one", x, 0, 2, Edge.NONE, n -> x.slack(n, 1));
        Edge.outside("other", x, 0, 2, Edge.NONE, n -> x.slack(1, n));
        Edge.taken("0 and 2", x, () -> x.slack(0, 2));
        Edge.taken("2 and 0", x, () -> x.slack(2, 0));
        for (int a = 0; a < 3; a++) {
            int activity = a;
            Check.refused("both are " + a, Edge.ILLEGAL, x, () -> x.slack(activity, activity));
        }
        Simplespan y = new Simplespan();
        Edge.outside("no activity", y, 0, -1, Edge.NONE, n -> y.slack(n, 0));
    }

    private static void slackAnswers() {
        Simplespan x = busy();
        Check.due("no distance", 9999, () -> x.slack(0, 1));
        x.bound(2, 3, 500, 0);
        Check.due("500", 500, () -> x.slack(0, 1));
        x.bound(2, 3, 0, 0);
        Check.due("0", 0, () -> x.slack(0, 1));
        x.bound(2, 3, -1, 0);
        Check.due("-1", -1, () -> x.slack(0, 1));
        Check.due("the other way there is none", 9999, () -> x.slack(1, 0));
        Simplespan y = Check.plan(2);
        y.addActivity(0, 1, 1);
        y.addActivity(1, 2, 1);
        Check.due("the end is the beginning", 0, () -> y.slack(0, 1));
        Check.due("the other way", 9999, () -> y.slack(1, 0));
    }

    private static void slackOrder() {
        Simplespan x = Edge.broken(1);
        x.addActivity(0, 1, 1);
        x.addActivity(1, 0, 1);
        Check.refused("no such activity, the same, not consistent", Edge.NONE, x, () -> x.slack(2, 2));
        Check.refused("no such activity, not consistent", Edge.NONE, x, () -> x.slack(0, -1));
        Check.refused("the same, not consistent", Edge.ILLEGAL, x, () -> x.slack(1, 1));
        Check.refused("not consistent", Edge.STATE, x, () -> x.slack(0, 1));
    }

    // Promise 41

    private static void levelWithoutPeak() {
        Simplespan x = busy();
        Check.due("no peak", 0, () -> x.level());
        Check.due("no bound was told", 6, () -> x.bound(0, 1, 500, 0));
    }

    private static void levelWithoutOrder() {
        Simplespan x = Check.plan(1);
        x.bound(1, 0, -5, 0);
        x.addActivity(0, 1, 9);
        x.setCapacity(8);
        Check.due("one activity has no order", 0, () -> x.level());
        Check.due("the peak stays", 0, () -> x.peak());
        x.addActivity(0, 1, 9);
        Check.due("two that are on at the same minutes", 0, () -> x.level());
        Check.due("the peak stays", 3, () -> x.peakSet());
    }

    /** Two activities of 5 minutes each, from events that can come at any time, at most so late. */
    private static Simplespan two(int latestOne, int latestOther) {
        Simplespan x = Check.plan(4);
        x.bound(1, 0, 0, 0);
        x.bound(2, 1, -5, 0);
        x.bound(3, 0, 0, 0);
        x.bound(4, 3, -5, 0);
        x.bound(0, 2, latestOne, 0);
        x.bound(0, 4, latestOther, 0);
        x.addActivity(1, 2, 5);
        x.addActivity(3, 4, 5);
        return x;
    }

    private static void levelAtSlackZero() {
        Simplespan x = two(10, 9);
        Check.due("slack of 0 and 1", -1, () -> x.slack(0, 1));
        Check.due("slack of 1 and 0", 0, () -> x.slack(1, 0));
        Check.due("0 is enough", 1, () -> x.level());
        Check.due("the activity 0 behind the activity 1", 5, () -> x.firstTime(1));
        Check.due("the activity 1 as it was", 0, () -> x.firstTime(3));
        Check.refused("there is no peak", Edge.NONE, x, () -> x.peak());
        Simplespan y = two(9, 9);
        Check.due("slack of 0 and 1", -1, () -> y.slack(0, 1));
        Check.due("slack of 1 and 0", -1, () -> y.slack(1, 0));
        Check.due("-1 is not", 0, () -> y.level());
        Check.due("the peak stays", 0, () -> y.peak());
    }

    private static void levelTakesGreatest() {
        Simplespan x = two(20, 21);
        Check.due("slack of 0 and 1", 11, () -> x.slack(0, 1));
        Check.due("slack of 1 and 0", 10, () -> x.slack(1, 0));
        Check.due("level", 1, () -> x.level());
        Check.due("the activity 1 behind the activity 0", 5, () -> x.firstTime(3));
        Check.due("its bound", 6, () -> x.dropBound(6));
        Check.due("dropped", 0, () -> x.firstTime(3));
        Simplespan y = two(21, 20);
        y.level();
        Check.due("the activity 0 behind the activity 1", 5, () -> y.firstTime(1));
        Check.due("from the beginning of the second one to the end of the first one: 0", 0, () -> y.distance(1, 4));
    }

    /** As many activities of some minutes each as there are lengths, each from an event of its own. */
    private static Simplespan row(int... lengths) {
        Simplespan x = Check.plan(2 * lengths.length);
        for (int a = 0; a < lengths.length; a++) {
            x.bound(2 * a + 1, 0, 0, 0);
            x.bound(2 * a + 2, 2 * a + 1, -lengths[a], 0);
            x.addActivity(2 * a + 1, 2 * a + 2, 5);
        }
        return x;
    }

    private static void levelTies() {
        Simplespan x = row(5, 6, 7);
        x.setCapacity(14);
        Check.due("of slacks of 9999 the lowest first, then the lowest second", 1, () -> x.level());
        int[] due = {0, 0, 5, 5, 11, 0, 7};
        for (int e = 0; e < due.length; e++) {
            int event = e;
            Check.due("firstTime " + e, due[e], () -> x.firstTime(event));
        }
        Simplespan y = two(20, 20);
        Check.due("equal slacks", 1, () -> y.level());
        Check.due("the lowest first activity is the first", 5, () -> y.firstTime(3));
        Simplespan z = row(5, 5, 5);
        z.setCapacity(14);
        z.bound(0, 2, 100, 0);
        z.bound(0, 4, 100, 0);
        z.bound(0, 6, 100, 0);
        Check.due("three with equal slacks", 1, () -> z.level());
        Check.due("the activity 1 is the second", 5, () -> z.firstTime(3));
        Check.due("the activity 2 is not", 0, () -> z.firstTime(5));
    }

    private static void levelGoesOn() {
        Simplespan x = row(5, 6, 7);
        Check.due("two at a time are too many", 3, () -> x.level());
        int[] due = {0, 0, 5, 5, 11, 11, 18};
        for (int e = 0; e < due.length; e++) {
            int event = e;
            Check.due("firstTime " + e, due[e], () -> x.firstTime(event));
        }
        Check.due("nothing more", 0, () -> x.level());
        x.setCapacity(4);
        Check.due("then each one alone is too many", 0, () -> x.level());
        Simplespan y = two(9, 9);
        y.addEvent();
        y.bound(5, 0, -100, 0);
        y.addActivity(0, 5, 1);
        y.addActivity(0, 5, 1);
        Check.due("it ends at the first peak, if this has no order", 0, () -> y.level());
    }

    private static void levelUntil40Bounds() {
        Simplespan x = row(5, 6, 7);
        Edge.fillBounds(x, 6, 38);
        Check.due("two of three bounds", 2, () -> x.level());
        Check.due("there are 40 bounds", "throws.IllegalStateException", () -> x.bound(0, 1, 0, 0));
        Check.due("a peak stays", 5, () -> x.peak());
        Check.due("nothing can be told", 0, () -> x.level());
        Simplespan y = row(5, 6, 7);
        Edge.fillBounds(y, 6, 37);
        Check.due("all three bounds", 3, () -> y.level());
        Check.refused("there is no peak", Edge.NONE, y, () -> y.peak());
        Simplespan z = row(5, 6);
        Edge.fillBounds(z, 4, 40);
        Check.due("there are 40 bounds", 0, () -> z.level());
        z.dropBound(39);
        Check.due("a dropped one counts", 0, () -> z.level());
    }

    /** No greatest minute is told for a peak. */
    private static void levelBehindTheMinute999() {
        Simplespan x = row(5, 6);
        x.addEvent();
        x.bound(5, 0, -500, 0);
        x.addEvent();
        x.bound(6, 5, -500, 0);
        x.bound(1, 6, 0, 0);
        x.bound(3, 6, -1, 0);
        Check.due("a peak behind the minute 999", 1001, () -> x.peak());
        Check.due("its set", 3, () -> x.peakSet());
        Check.refused("of which use() is not told", Edge.ILLEGAL, x, () -> x.use(1001));
        Check.due("it is levelled", 1, () -> x.level());
        Check.due("the activity 1 behind the activity 0", 1005, () -> x.firstTime(3));
        Check.refused("there is no peak", Edge.NONE, x, () -> x.peak());
    }

    /** The bound has no label: it holds whatever labels are. */
    private static void levelHasNoLabel() {
        for (int k = 1; k <= 4; k++) {
            int label = k;
            Simplespan x = two(20, 20);
            x.observe(k, k % 2 == 0);
            Check.due("level", 1, () -> x.level());
            Check.due("its bound holds", 1.0f, () -> x.heldShare());
            x.bound(2, 3, -1, label);
            x.bound(2, 3, -1, -label);
            Check.due("it holds with all labels open", true, () -> x.isPossible(0, 0));
            Check.due("it holds with a true one", false, () -> x.isPossible(1 << (label - 1), 0));
            Check.due("it holds with a false one", false, () -> x.isPossible(0, 1 << (label - 1)));
        }
        Simplespan y = two(20, 20);
        y.choose();
        Check.due("level", 1, () -> y.level());
        Check.due("its bound holds with chosen labels", 1.0f, () -> y.heldShare());
        y.bound(2, 3, -1, 0);
        Check.due("it holds with open ones", false, () -> y.isPossible(0, 0));
    }

    /** It asks for a consistent net alone. */
    private static void levelWhenNotSeen() {
        Simplespan x = two(20, 20);
        x.addEvent();
        x.addSpan(0, 5, 3, 10);
        x.bound(0, 5, 9, 0);
        Check.due("it cannot be controlled as it is seen", false, () -> x.isSeen());
        Check.due("it can be levelled", 1, () -> x.level());
        Simplespan y = two(20, 20);
        y.pass(3);
        y.start(1);
        Check.due("the event 1 has started at the minute 3", 3, () -> y.firstTime(1));
        Check.due("both are on at the minute 3", 3, () -> y.peak());
        Check.due("level", 1, () -> y.level());
        Check.due("the activity 1 behind the activity 0", 8, () -> y.firstTime(3));
        Simplespan z = two(20, 20);
        z.pass(9);
        z.start(3);
        Check.due("no peak: the activity 0 ends ahead of the minute 9", 0, () -> z.level());
        Check.due("the activity 0 as it was", 0, () -> z.firstTime(1));
    }

    private static void levelRefused() {
        Simplespan x = row(5, 6);
        x.bound(0, 2, 4, 0);
        Check.refused("not consistent", Edge.STATE, x, () -> x.level());
        Simplespan y = Edge.broken(1);
        Check.refused("not consistent, no activity", Edge.STATE, y, () -> y.level());
    }

    // Promise 42

    private static void setCostEdges() {
        Simplespan x = Check.plan(2);
        Edge.range("event", x, 0, 2, Edge.NONE, n -> x.setCost(n, 5, 1, 1));
        Edge.range("due", x, 0, 999, Edge.ILLEGAL, n -> x.setCost(1, n, 1, 1));
        Edge.range("early", x, 0, 99, Edge.ILLEGAL, n -> x.setCost(1, 5, n, 1));
        Edge.range("late", x, 0, 99, Edge.ILLEGAL, n -> x.setCost(1, 5, 1, n));
        Check.due("none before", -1, () -> x.setCost(1, 0, 0, 0));
        Check.due("0 before", 0, () -> x.setCost(1, 999, 99, 99));
        Check.due("999 before", 999, () -> x.setCost(1, 5, 2, 3));
        Check.refused("a refused one is none", Edge.ILLEGAL, x, () -> x.setCost(1, 6, 2, 100));
        Check.due("5 before", 5, () -> x.setCost(1, 5, 2, 3));
        Check.due("another event has none", -1, () -> x.setCost(2, 5, 2, 3));
        Simplespan y = Edge.broken(1);
        Check.due("whatever the net", -1, () -> y.setCost(1, 5, 2, 3));
    }

    private static void setCostOrder() {
        Simplespan x = Check.plan(1);
        Check.refused("no such event, and due", Edge.NONE, x, () -> x.setCost(2, 1000, 0, 0));
        Check.refused("no such event, and early", Edge.NONE, x, () -> x.setCost(2, 0, 100, 0));
        Check.refused("no such event, and late", Edge.NONE, x, () -> x.setCost(-1, 0, 0, -1));
        Check.refused("no such event, and minute", Edge.NONE, x, () -> x.costOf(2, 1000));
        Check.refused("no such event, and minute", Edge.NONE, x, () -> x.costOf(-1, -1));
    }

    // Promise 43

    private static void costOfEdges() {
        Simplespan x = Check.plan(2);
        Edge.range("event", x, 0, 2, Edge.NONE, n -> x.costOf(n, 0));
        Edge.range("minute", x, 0, 999, Edge.ILLEGAL, n -> x.costOf(1, n));
        x.setCost(1, 500, 99, 98);
        Edge.range("minute, with a due minute", x, 0, 999, Edge.ILLEGAL, n -> x.costOf(1, n));
        int[][] due = {{0, 49500}, {499, 99}, {500, 0}, {501, 98}, {999, 48902}};
        for (int[] row : due) {
            Check.due("at " + row[0], row[1], () -> x.costOf(1, row[0]));
            Check.due("without a due minute", 0, () -> x.costOf(2, row[0]));
        }
        x.setCost(1, 0, 99, 99);
        Check.due("due at 0", 0, () -> x.costOf(1, 0));
        Check.due("999 behind", 98901, () -> x.costOf(1, 999));
        x.setCost(1, 999, 99, 99);
        Check.due("999 ahead", 98901, () -> x.costOf(1, 0));
        x.setCost(1, 999, 0, 0);
        Check.due("for nothing", 0, () -> x.costOf(1, 0));
    }

    // Promise 44

    private static void costSums() {
        Simplespan x = Check.plan(9);
        Check.due("none has a due minute", 0L, () -> x.cost());
        for (int e = 0; e < 10; e++) {
            x.setCost(e, 999, 99, 99);
        }
        Check.due("all ten are 999 ahead", 989010L, () -> x.cost());
        for (int e = 0; e < 9; e++) {
            x.bound(e + 1, e, -500, 0);
        }
        Check.due("first times to 4500", 99L * (999 + 499 + 1 + 501 + 1001 + 1501 + 2001 + 2501 + 3001 + 3501),
            () -> x.cost());
        x.bound(0, 1, 499, 0);
        Check.refused("not consistent", Edge.STATE, x, () -> x.cost());
        Simplespan y = Edge.broken(1);
        Check.refused("not consistent, no due minute", Edge.STATE, y, () -> y.cost());
    }
}
