/** Promises 45 and 46: frames. */
public final class FrameTest {
    public static void main(String[] args) {
        counts();
        everything();
        nested();
        numbersAgain();
        Check.end();
    }

    private static void counts() {
        Simplespan x = Check.plan(1);
        Check.refused("none is open", IllegalStateException.class, x, () -> x.takeBack());
        for (int i = 1; i <= 4; i++) {
            int number = i;
            Check.due("open", number, () -> x.open());
        }
        Check.refused("a 5th", IllegalStateException.class, x, () -> x.open());
        for (int i = 3; i >= 0; i--) {
            int number = i;
            Check.due("takeBack", number, () -> x.takeBack());
        }
        Check.state("none is open", () -> x.takeBack());
        Check.due("open again", 1, () -> x.open());
    }

    private static Simplespan full() {
        Simplespan x = Check.plan(4);
        x.addSpan(1, 2, 3, 10);
        x.bound(1, 0, -2, 0);
        x.bound(3, 2, 1, 1);
        x.bound(2, 3, 2, 1);
        x.bound(0, 4, 30, -2);
        x.observe(1, true);
        x.choose();
        x.addActivity(1, 2, 5);
        x.addActivity(0, 3, 6);
        x.setCapacity(8);
        x.setCost(3, 7, 2, 1);
        x.play(1);
        x.pass(2);
        return x;
    }

    /** Each change of a plan, one by one, in a frame of its own. */
    private static void everything() {
        Simplespan x = full();
        back(x, "addEvent", () -> x.addEvent());
        back(x, "bound", () -> x.bound(0, 3, 25, 0));
        back(x, "dropBound", () -> x.dropBound(0));
        back(x, "addSpan", () -> x.addSpan(0, 4, 3, 9));
        for (int k = 2; k <= 4; k++) {
            int label = k;
            back(x, "observe", () -> x.observe(label, false));
        }
        back(x, "play", () -> x.play(0));
        back(x, "start", () -> x.start(1));
        back(x, "pass", () -> x.pass(5));
        back(x, "addActivity", () -> x.addActivity(0, 2, 3));
        back(x, "setCapacity", () -> x.setCapacity(20));
        back(x, "setCost", () -> x.setCost(3, 9, 9, 9));
        x.dropBound(3);
        x.bound(4, 0, -9, 2);
        x.bound(0, 4, 5, 0);
        back(x, "choose", () -> x.choose());
        Simplespan y = Check.plan(1);
        y.addSpan(0, 1, 2, 5);
        y.pass(4);
        back(y, "end", () -> y.end(0));
        Check.due("end once more", 4, () -> y.end(0));
        Simplespan z = Check.plan(2);
        z.bound(1, 0, -3, 0);
        z.bound(2, 0, -3, 0);
        z.addActivity(0, 1, 5);
        z.addActivity(0, 2, 5);
        z.addEvent();
        z.addActivity(3, 1, 5);
        back(z, "level", () -> z.level());
        Check.due("level once more", 1, () -> z.level());
    }

    private static void back(Simplespan x, String what, Check.Call change) {
        String before = Snapshot.of(x);
        x.open();
        Check.same(what + ": opening changes nothing", before, Snapshot.of(x));
        String answer = Check.told(change);
        Check.same(what + " answers", "false", String.valueOf(answer.startsWith("throws")));
        Check.same(what + " changes something", "true", String.valueOf(!before.equals(Snapshot.of(x))));
        x.takeBack();
        Check.same(what + " is taken back", before, Snapshot.of(x));
    }

    private static void nested() {
        Simplespan x = Check.plan(1);
        String[] before = new String[4];
        for (int i = 0; i < 4; i++) {
            x.bound(0, 1, 100 - i, 0);
            x.pass(1);
            before[i] = Snapshot.of(x);
            x.open();
        }
        x.addEvent();
        x.start(1);
        for (int i = 3; i >= 0; i--) {
            x.takeBack();
            Check.same("frame " + i, before[i], Snapshot.of(x));
        }
    }

    private static void numbersAgain() {
        Simplespan x = Check.plan(1);
        x.open();
        x.addEvent();
        x.start(2);
        x.setCost(2, 5, 1, 1);
        x.bound(0, 1, 5, 0);
        x.dropBound(0);
        x.takeBack();
        Check.due("the number comes again", 2, () -> x.addEvent());
        Check.state("the new event has not started", () -> x.startedAt(2));
        Check.due("it has no due minute", -1, () -> x.setCost(2, 5, 1, 1));
        Check.due("the bound's number too", 0, () -> x.bound(0, 1, 6, 0));
        Check.due("it holds", 6, () -> x.distance(0, 1));
    }
}
