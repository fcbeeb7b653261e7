import java.util.NoSuchElementException;

/** Promises 34 to 44: the resource and costs. */
public final class ResourceTest {
    public static void main(String[] args) {
        addActivity();
        setCapacity();
        firstTimes();
        peaks();
        latePeak();
        slack();
        levelTies();
        levelGreatest();
        levelThree();
        levelEnds();
        notConsistent();
        costs();
        Check.end();
    }

    private static void addActivity() {
        Simplespan x = Check.plan(2);
        Class<NoSuchElementException> none = NoSuchElementException.class;
        Class<IllegalArgumentException> illegal = IllegalArgumentException.class;
        Check.refused("from 3", none, x, () -> x.addActivity(3, 1, 1));
        Check.refused("to -1", none, x, () -> x.addActivity(1, -1, 10));
        Check.refused("the same", illegal, x, () -> x.addActivity(1, 1, 1));
        Check.refused("demand 0", illegal, x, () -> x.addActivity(1, 2, 0));
        Check.refused("demand 10", illegal, x, () -> x.addActivity(1, 2, 10));
        for (int i = 0; i < 5; i++) {
            int number = i;
            Check.due("addActivity", number, () -> x.addActivity(number % 3, (number + 1) % 3, 1 + 2 * number));
        }
        Check.refused("a 6th", IllegalStateException.class, x, () -> x.addActivity(0, 1, 1));
        Check.illegal("a wrong 6th", () -> x.addActivity(0, 1, 10));
        Check.noSuch("a 6th of none", () -> x.addActivity(0, 3, 10));
    }

    private static void setCapacity() {
        Simplespan x = Check.plan(1);
        Check.due("9 at first", 9, () -> x.setCapacity(40));
        Check.refused("41", IllegalArgumentException.class, x, () -> x.setCapacity(41));
        Check.refused("-1", IllegalArgumentException.class, x, () -> x.setCapacity(-1));
        Check.due("before", 40, () -> x.setCapacity(0));
        Check.due("before", 0, () -> x.setCapacity(7));
    }

    private static void firstTimes() {
        Simplespan x = Check.plan(3);
        x.bound(1, 0, -5, 0);
        x.bound(2, 1, -7, 0);
        x.bound(3, 0, 4, 0);
        int[] due = {0, 5, 12, 0};
        for (int e = 0; e < 4; e++) {
            int event = e;
            Check.due("firstTime", due[e], () -> x.firstTime(event));
        }
        Check.refused("no such event", NoSuchElementException.class, x, () -> x.firstTime(4));
        Check.refused("no such event", NoSuchElementException.class, x, () -> x.firstTime(-1));
        x.pass(9);
        x.start(1);
        Check.due("started", 9, () -> x.firstTime(1));
        Check.due("behind it", 16, () -> x.firstTime(2));
    }

    /** Activities from 0 to 5 with 5, from 2 to 8 with 4, from 2 to 3 with 1, and one that is never on. */
    private static Simplespan busy() {
        Simplespan x = Check.plan(5);
        x.bound(1, 0, -5, 0);
        x.bound(2, 0, -2, 0);
        x.bound(3, 2, -6, 0);
        x.bound(4, 2, -1, 0);
        x.addActivity(0, 1, 5);
        x.addActivity(2, 3, 4);
        x.addActivity(2, 4, 1);
        x.addActivity(3, 2, 9);
        return x;
    }

    private static void peaks() {
        Simplespan x = busy();
        int[] due = {5, 5, 10, 9, 9, 4, 4, 4, 0, 0};
        for (int m = 0; m < due.length; m++) {
            int minute = m;
            Check.due("use of " + m, due[m], () -> x.use(minute));
        }
        Check.due("use", 0, () -> x.use(999));
        Check.refused("1000", IllegalArgumentException.class, x, () -> x.use(1000));
        Check.refused("-1", IllegalArgumentException.class, x, () -> x.use(-1));
        Check.due("peak", 2, () -> x.peak());
        Check.due("peakSet", 7, () -> x.peakSet());
        x.setCapacity(10);
        Check.refused("the capacity is enough", NoSuchElementException.class, x, () -> x.peak());
        Check.refused("the capacity is enough", NoSuchElementException.class, x, () -> x.peakSet());
        x.setCapacity(4);
        Check.due("peak", 0, () -> x.peak());
        Check.due("peakSet", 1, () -> x.peakSet());
        x.setCapacity(0);
        x.bound(1, 0, -50, 0);
        Check.due("use", 5, () -> x.use(49));
        Check.due("use", 0, () -> x.use(50));
    }

    private static void latePeak() {
        Simplespan x = Check.plan(4);
        x.bound(1, 0, -500, 0);
        x.bound(2, 1, -500, 0);
        x.bound(3, 2, -500, 0);
        x.bound(4, 3, -500, 0);
        x.addActivity(3, 4, 9);
        Check.noSuch("9 is not greater than 9", () -> x.peak());
        x.setCapacity(8);
        Check.due("behind the minute 999", 1500, () -> x.peak());
        Check.due("peakSet", 1, () -> x.peakSet());
        x.setCost(4, 999, 0, 2);
        Check.due("cost", 2002, () -> x.cost());
    }

    private static void slack() {
        Simplespan x = busy();
        Check.due("no distance", 9999, () -> x.slack(0, 1));
        x.bound(1, 2, 8, 0);
        Check.due("slack", 8, () -> x.slack(0, 1));
        Check.due("slack", 8, () -> x.slack(0, 2));
        Check.due("less than 0", -8, () -> x.slack(1, 0));
        Check.due("from an event to itself", 0, () -> x.slack(1, 3));
        Check.refused("no such activity", NoSuchElementException.class, x, () -> x.slack(0, 4));
        Check.refused("no such activity", NoSuchElementException.class, x, () -> x.slack(-1, 0));
        Check.refused("no such activity", NoSuchElementException.class, x, () -> x.slack(4, 4));
        Check.refused("the same", IllegalArgumentException.class, x, () -> x.slack(1, 1));
    }

    /** Two activities from 0, one for 5 minutes, one for 3. */
    private static Simplespan two() {
        Simplespan x = Check.plan(4);
        x.bound(1, 0, 0, 0);
        x.bound(2, 1, -5, 0);
        x.bound(3, 0, 0, 0);
        x.bound(4, 3, -3, 0);
        x.addActivity(1, 2, 5);
        x.addActivity(3, 4, 6);
        return x;
    }

    private static void levelTies() {
        Simplespan x = two();
        Check.due("use", 11, () -> x.use(0));
        Check.due("peak", 0, () -> x.peak());
        Check.due("both 9999: the lowest first activity", 1, () -> x.level());
        Check.due("firstTime", 5, () -> x.firstTime(3));
        Check.due("firstTime", 0, () -> x.firstTime(1));
        Check.due("the bound", 0, () -> x.distance(3, 2));
        Check.noSuch("peak", () -> x.peak());
        Check.due("nothing more", 0, () -> x.level());
        Check.due("the bound has a number", 4, () -> x.dropBound(4));
        Check.due("use", 11, () -> x.use(0));
        Simplespan y = Check.plan(4);
        y.bound(1, 0, -3, 0);
        y.bound(2, 0, -3, 0);
        y.bound(3, 0, -3, 0);
        for (int e = 1; e <= 3; e++) {
            y.addActivity(0, e, 4);
        }
        Check.due("they all begin at once: no order", 0, () -> y.level());
        Check.due("peakSet", 7, () -> y.peakSet());
    }

    private static void levelGreatest() {
        Simplespan x = two();
        x.bound(0, 2, 20, 0);
        x.bound(0, 4, 10, 0);
        Check.due("slack", 2, () -> x.slack(0, 1));
        Check.due("slack", 12, () -> x.slack(1, 0));
        Check.due("level", 1, () -> x.level());
        Check.due("the greatest slack", 3, () -> x.firstTime(1));
        Check.due("the other one stays", 0, () -> x.firstTime(3));
        Simplespan z = two();
        z.bound(0, 2, 8, 0);
        z.bound(0, 4, 5, 0);
        Check.due("slack", -3, () -> z.slack(0, 1));
        Check.due("slack", 0, () -> z.slack(1, 0));
        Check.due("a slack of 0 is enough", 1, () -> z.level());
        Check.due("firstTime", 3, () -> z.firstTime(1));
        Check.due("firstTime", 8, () -> z.firstTime(2));
        Simplespan y = two();
        y.bound(0, 2, 5, 0);
        y.bound(0, 4, 5, 0);
        Check.due("slack", -3, () -> y.slack(0, 1));
        Check.due("slack", -3, () -> y.slack(1, 0));
        Check.due("no such order", 0, () -> y.level());
        Check.due("the peak stays", 3, () -> y.peakSet());
    }

    private static void levelThree() {
        Simplespan x = Check.plan(6);
        for (int a = 0; a < 3; a++) {
            x.bound(1 + 2 * a, 0, 0, 0);
            x.bound(2 + 2 * a, 1 + 2 * a, -4 - a, 0);
            x.addActivity(1 + 2 * a, 2 + 2 * a, 5);
        }
        Check.due("each two at a time are too many", 3, () -> x.level());
        int[] due = {0, 0, 4, 4, 9, 9, 15};
        for (int e = 0; e < due.length; e++) {
            int event = e;
            Check.due("firstTime of " + e, due[e], () -> x.firstTime(event));
        }
        Check.due("told bounds hold", 9.0f / 9.0f, () -> x.heldShare());
        Check.due("all are dropped by their numbers", 8, () -> x.dropBound(8));
    }

    private static void levelEnds() {
        Simplespan x = two();
        for (int i = 4; i < 40; i++) {
            x.bound(0, 1, 400, 0);
        }
        Check.due("there are 40 bounds", 0, () -> x.level());
        Check.due("peak", 0, () -> x.peak());
        Simplespan y = two();
        y.addActivity(1, 4, 1);
        for (int i = 4; i < 39; i++) {
            y.bound(0, 1, 400, 0);
        }
        y.setCapacity(5);
        Check.due("one bound is left", 1, () -> y.level());
        Check.state("it is told", () -> y.bound(0, 1, 1, 0));
    }

    private static void notConsistent() {
        Simplespan x = two();
        x.bound(0, 2, 4, 0);
        Class<IllegalStateException> state = IllegalStateException.class;
        Check.refused("firstTime", state, x, () -> x.firstTime(0));
        Check.refused("use", state, x, () -> x.use(0));
        Check.refused("peak", state, x, () -> x.peak());
        Check.refused("peakSet", state, x, () -> x.peakSet());
        Check.refused("slack", state, x, () -> x.slack(0, 1));
        Check.refused("level", state, x, () -> x.level());
        Check.refused("cost", state, x, () -> x.cost());
        Check.noSuch("firstTime", () -> x.firstTime(5));
        Check.illegal("use", () -> x.use(1000));
        Check.illegal("slack", () -> x.slack(0, 0));
    }

    private static void costs() {
        Simplespan x = Check.plan(2);
        Class<NoSuchElementException> none = NoSuchElementException.class;
        Class<IllegalArgumentException> illegal = IllegalArgumentException.class;
        Check.due("no due minute", 0, () -> x.costOf(1, 500));
        Check.due("setCost", -1, () -> x.setCost(1, 10, 5, 3));
        Check.due("ahead", 50, () -> x.costOf(1, 0));
        Check.due("ahead", 5, () -> x.costOf(1, 9));
        Check.due("due", 0, () -> x.costOf(1, 10));
        Check.due("behind", 3, () -> x.costOf(1, 11));
        Check.due("behind", 2967, () -> x.costOf(1, 999));
        Check.due("cost", 50L, () -> x.cost());
        x.bound(1, 0, -12, 0);
        Check.due("cost at the first time", 6L, () -> x.cost());
        Check.due("setCost of the event 0", -1, () -> x.setCost(0, 999, 99, 0));
        Check.due("cost", 98907L, () -> x.cost());
        Check.due("the due minute before", 10, () -> x.setCost(1, 0, 0, 99));
        Check.due("cost", 98901L + 1188L, () -> x.cost());
        Check.due("the due minute 0", 0, () -> x.setCost(1, 999, 99, 99));
        Check.refused("no such event", none, x, () -> x.setCost(3, 1000, 0, 0));
        Check.refused("no such event", none, x, () -> x.setCost(-1, 0, 0, 0));
        Check.refused("due 1000", illegal, x, () -> x.setCost(1, 1000, 0, 0));
        Check.refused("due -1", illegal, x, () -> x.setCost(1, -1, 0, 0));
        Check.refused("early 100", illegal, x, () -> x.setCost(1, 0, 100, 0));
        Check.refused("early -1", illegal, x, () -> x.setCost(1, 0, -1, 0));
        Check.refused("late 100", illegal, x, () -> x.setCost(1, 0, 0, 100));
        Check.refused("late -1", illegal, x, () -> x.setCost(1, 0, 0, -1));
        Check.refused("no such event", none, x, () -> x.costOf(3, 1000));
        Check.refused("minute 1000", illegal, x, () -> x.costOf(2, 1000));
        Check.refused("minute -1", illegal, x, () -> x.costOf(2, -1));
    }
}
