/** Promises 45 and 46, and what holds for all calls: a test for each sentence that names a boundary case. */
public final class EdgeFrameTest {
    public static void main(String[] args) {
        fourFrames();
        noFrame();
        framesStayOpen();
        toldAndCarriedOut();
        numbersAreFreeAgain();
        refusedIsTakenBackToo();
        innerFrames();
        framesAtTheLimits();
        askingChangesNothing();
        calls512();
        changes512();
        Check.end();
    }

    // Promises 45 and 46

    private static void fourFrames() {
        Simplespan x = new Simplespan();
        for (int number = 1; number <= 4; number++) {
            int open = number;
            Check.due("open", open, () -> x.open());
        }
        Check.refused("4 are open", Edge.STATE, x, () -> x.open());
        Check.due("takeBack", 3, () -> x.takeBack());
        Check.due("one is free again", 4, () -> x.open());
        Check.refused("4 are open again", Edge.STATE, x, () -> x.open());
    }

    private static void noFrame() {
        Simplespan x = new Simplespan();
        Check.refused("none is open", Edge.STATE, x, () -> x.takeBack());
        x.open();
        Check.due("the only one", 0, () -> x.takeBack());
        Check.refused("none is open again", Edge.STATE, x, () -> x.takeBack());
        Check.due("the first one again", 1, () -> x.open());
    }

    /** What is refused, and what cannot be, closes no frame. */
    private static void framesStayOpen() {
        Simplespan x = Edge.broken(1);
        Check.due("whatever the net", 1, () -> x.open());
        Check.state("refused", () -> x.distance(0, 1));
        Check.unsupported("refused", () -> x.choose());
        x.dropBound(0);
        Check.due("it is still open", 0, () -> x.takeBack());
        Check.due("not consistent again", false, () -> x.isConsistent());
    }

    private static Simplespan full() {
        Simplespan x = Check.plan(4);
        x.addSpan(0, 1, 2, 5);
        x.bound(2, 1, 1, 1);
        x.bound(0, 3, 30, 0);
        x.bound(3, 0, -1, -2);
        x.observe(1, true);
        x.choose();
        x.addActivity(0, 1, 5);
        x.addActivity(0, 2, 6);
        x.setCapacity(8);
        x.setCost(3, 7, 2, 1);
        x.play(1);
        x.pass(2);
        return x;
    }

    private static void toldAndCarriedOut() {
        Simplespan x = full();
        Check.Call[] changes = {() -> x.addEvent(), () -> x.bound(0, 4, 9, 0), () -> x.dropBound(1),
            () -> x.addSpan(0, 4, 3, 9), () -> x.observe(2, false), () -> x.observe(3, true), () -> x.play(0),
            () -> x.start(3), () -> x.end(0), () -> x.pass(3), () -> x.addActivity(0, 4, 1),
            () -> x.setCapacity(9), () -> x.setCost(3, 7, 2, 2), () -> x.setCost(0, 0, 0, 0)};
        String before = Snapshot.of(x);
        for (int i = 0; i < changes.length; i++) {
            x.open();
            String answer = Check.told(changes[i]);
            Check.same("the change " + i + " answers " + answer, "false", "" + answer.startsWith("throws."));
            Check.same("the change " + i + " changes something", "false", "" + before.equals(Snapshot.of(x)));
            x.takeBack();
            Check.same("the change " + i + " is taken back", before, Snapshot.of(x));
        }
        x.open();
        for (Check.Call change : changes) {
            change.answer();
        }
        x.takeBack();
        Check.same("all changes are taken back", before, Snapshot.of(x));
    }

    private static void numbersAreFreeAgain() {
        Simplespan x = Check.plan(2);
        x.open();
        Check.due("addEvent", 3, () -> x.addEvent());
        Check.due("bound", 0, () -> x.bound(0, 3, 5, 0));
        Check.due("addSpan", 0, () -> x.addSpan(0, 3, 1, 5));
        Check.due("addActivity", 0, () -> x.addActivity(0, 3, 1));
        Check.due("dropBound", 0, () -> x.dropBound(0));
        Check.due("setCost", -1, () -> x.setCost(3, 1, 1, 1));
        x.takeBack();
        Check.refused("no such event", Edge.NONE, x, () -> x.firstTime(3));
        Check.refused("no such bound", Edge.NONE, x, () -> x.dropBound(0));
        Check.refused("no such span", Edge.NONE, x, () -> x.end(0));
        Check.refused("no such activity", Edge.NONE, x, () -> x.slack(0, 0));
        Check.due("addEvent", 3, () -> x.addEvent());
        Check.due("its cost is gone", -1, () -> x.setCost(3, 1, 1, 1));
        Check.due("it is no end of a span", '-', () -> x.reason(3));
        Check.due("bound", 0, () -> x.bound(0, 3, 6, 0));
        Check.due("it was not dropped", 6, () -> x.distance(0, 3));
    }

    private static void refusedIsTakenBackToo() {
        Simplespan x = full();
        String before = Snapshot.of(x);
        x.open();
        Check.noSuch("refused", () -> x.start(5));
        Check.unsupported("refused", () -> x.start(0));
        Check.state("refused", () -> x.observe(1, true));
        Check.illegal("refused", () -> x.setCapacity(41));
        x.takeBack();
        Check.same("as it was", before, Snapshot.of(x));
    }

    private static void innerFrames() {
        Simplespan x = Check.plan(1);
        x.setCapacity(1);
        x.open();
        x.setCapacity(2);
        x.open();
        x.setCapacity(3);
        x.open();
        x.setCapacity(4);
        x.open();
        x.setCapacity(5);
        for (int before = 4; before >= 1; before--) {
            int capacity = before;
            x.takeBack();
            Check.due("as it was when it was opened", capacity, () -> x.setCapacity(capacity));
        }
        x.open();
        x.setCapacity(7);
        x.open();
        x.takeBack();
        Check.due("the outer frame's change stays", 7, () -> x.setCapacity(8));
        x.takeBack();
        Check.due("until it is taken back", 1, () -> x.setCapacity(1));
    }

    private static void framesAtTheLimits() {
        Simplespan x = Check.plan(9);
        Edge.fillBounds(x, 0, 40);
        for (int s = 0; s < 3; s++) {
            x.addSpan(0, s + 1, 1, 200);
        }
        for (int a = 0; a < 5; a++) {
            x.addActivity(0, 1, 9);
        }
        String before = Snapshot.of(x);
        for (int i = 0; i < 4; i++) {
            x.open();
        }
        Check.refused("10 events", Edge.STATE, x, () -> x.addEvent());
        Check.refused("40 bounds", Edge.STATE, x, () -> x.bound(0, 1, 0, 0));
        Check.refused("3 spans", Edge.STATE, x, () -> x.addSpan(0, 9, 1, 1));
        Check.refused("5 activities", Edge.STATE, x, () -> x.addActivity(0, 1, 1));
        x.pass(200);
        for (int s = 0; s < 3; s++) {
            x.end(s);
        }
        for (int i = 0; i < 4; i++) {
            x.takeBack();
        }
        Check.same("as it was", before, Snapshot.of(x));
    }

    private static void askingChangesNothing() {
        Simplespan x = full();
        Check.Call[] asked = {() -> x.labelOf(1), () -> x.isPossible(15, 0), () -> x.isPossible(0, 15),
            () -> x.isConsistent(), () -> x.distance(0, 1), () -> x.distanceByRounds(1, 0), () -> x.isDirect(0, 1),
            () -> x.isWeak(), () -> x.isStrong(), () -> x.isSeen(), () -> x.rounds(), () -> x.reduced(0, 1),
            () -> x.waitFor(1, 0), () -> x.failure(0), () -> x.playedAt(0), () -> x.isKept(), () -> x.reason(3),
            () -> x.lowest(3), () -> x.uppermost(3), () -> x.now(), () -> x.startedAt(0), () -> x.firstTime(3),
            () -> x.use(0), () -> x.peak(), () -> x.peakSet(), () -> x.slack(0, 1), () -> x.costOf(3, 0),
            () -> x.cost(), () -> x.heldShare(), () -> x.meanSlack()};
        String before = Snapshot.of(x) + State.of(x);
        for (int i = 0; i < asked.length; i++) {
            String answer = Check.told(asked[i]);
            Check.same("the call " + i + " answers " + answer, "false", "" + answer.startsWith("throws."));
            Check.same("the call " + i + " answers so once more", answer, Check.told(asked[i]));
            Check.same("the call " + i + " changes nothing", before, Snapshot.of(x) + State.of(x));
        }
        x.bound(0, 1, 4, 0);
        x.bound(1, 0, -5, 0);
        before = Snapshot.of(x) + State.of(x);
        Check.due("conflictSize", 2, () -> x.conflictSize());
        Check.due("conflictAt", 4, () -> x.conflictAt(1));
        Check.same("the conflict changes nothing", before, Snapshot.of(x) + State.of(x));
    }

    /** The 512th call answers as the first one would. */
    private static void calls512() {
        Simplespan x = new Simplespan();
        int calls = 0;
        for (int e = 1; e <= 9; e++) {
            int event = e;
            Check.due("addEvent", event, () -> x.addEvent());
            calls++;
        }
        while (calls < 508) {
            Check.due("open", 1, () -> x.open());
            Check.due("bound", 0, () -> x.bound(0, 9, 7, 0));
            Check.due("distance", 7, () -> x.distance(0, 9));
            Check.due("takeBack", 0, () -> x.takeBack());
            calls += 4;
        }
        while (calls < 511) {
            Check.unsupported("no distance", () -> x.distance(0, 9));
            calls++;
        }
        Check.due("the 512th call", 0, () -> x.play(0));
    }

    /** 512 calls, each of which changes something. */
    private static void changes512() {
        Simplespan x = Check.plan(8);
        int calls = 8;
        while (calls < 512) {
            Check.due("open, call " + calls, 1, () -> x.open());
            Check.due("bound, call " + calls, 0, () -> x.bound(0, 8, 7, 0));
            Check.due("addSpan, call " + calls, 0, () -> x.addSpan(6, 7, 2, 3));
            Check.due("observe, call " + calls, 1, () -> x.observe(1, true));
            Check.due("start, call " + calls, 0, () -> x.start(6));
            Check.due("pass, call " + calls, 2, () -> x.pass(2));
            Check.due("end, call " + calls, 2, () -> x.end(0));
            Check.due("takeBack, call " + calls, 0, () -> x.takeBack());
            calls += 8;
        }
        Check.same("calls", "512", "" + calls);
    }
}
