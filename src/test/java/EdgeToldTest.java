/** Promises 1 to 9 and 47: a test for each sentence that names a boundary case. */
public final class EdgeToldTest {
    public static void main(String[] args) {
        newObjectIsEmpty();
        newObjectRefuses();
        tenEvents();
        addedEventIsInAll();
        boundEvents();
        boundNumbers();
        boundOrder();
        fortyBounds();
        droppedBoundsCount();
        boundsThatLevelTells();
        dropBoundEdges();
        dropBoundAnswers();
        spanEvents();
        spanLengths();
        spanStates();
        spanStarted();
        spanOrder();
        spanOfTheEventZero();
        observeEdges();
        observeAnswers();
        labelLetters();
        chooseNone();
        chooseEachWay();
        chooseTheLowerLabel();
        chooseOneForTwo();
        chooseObserved();
        chooseIsInAll();
        possibleEdges();
        possibleWays();
        labelsOfBounds();
        heldShareEdges();
        Check.end();
    }

    // Promise 1

    private static void newObjectIsEmpty() {
        Simplespan x = new Simplespan();
        Check.due("the minute 0", 0, () -> x.now());
        Check.due("the event 0 has started at the minute 0", 0, () -> x.startedAt(0));
        Check.due("isConsistent", true, () -> x.isConsistent());
        Check.due("isWeak", true, () -> x.isWeak());
        Check.due("isStrong", true, () -> x.isStrong());
        Check.due("isSeen", true, () -> x.isSeen());
        Check.due("rounds", 0, () -> x.rounds());
        Check.due("distance", 0, () -> x.distance(0, 0));
        Check.due("distanceByRounds", 0, () -> x.distanceByRounds(0, 0));
        Check.due("reduced", 0, () -> x.reduced(0, 0));
        Check.due("reason", 's', () -> x.reason(0));
        Check.due("firstTime", 0, () -> x.firstTime(0));
        Check.due("use", 0, () -> x.use(0));
        Check.due("level", 0, () -> x.level());
        Check.due("cost", 0L, () -> x.cost());
        Check.due("costOf", 0, () -> x.costOf(0, 999));
        Check.due("failure", '-', () -> x.failure(0));
        Check.due("isKept", true, () -> x.isKept());
        Check.due("a new object's capacity is 9", 9, () -> x.setCapacity(9));
        Check.due("no due minute", -1, () -> x.setCost(0, 0, 0, 0));
        Check.due("no frame is open", 1, () -> x.open());
        Check.due("all four labels", 4, () -> x.choose());
    }

    private static void newObjectRefuses() {
        Simplespan x = new Simplespan();
        Check.refused("no event 1", Edge.NONE, x, () -> x.startedAt(1));
        Check.refused("no bound", Edge.NONE, x, () -> x.dropBound(0));
        Check.refused("no bound", Edge.ARITHMETIC, x, () -> x.heldShare());
        Check.refused("no span", Edge.NONE, x, () -> x.end(0));
        Check.refused("no span", Edge.NONE, x, () -> x.waitFor(0, 0));
        Check.refused("no activity", Edge.NONE, x, () -> x.slack(0, 0));
        Check.refused("no peak", Edge.NONE, x, () -> x.peak());
        Check.refused("no peak", Edge.NONE, x, () -> x.peakSet());
        Check.refused("no conflict", Edge.STATE, x, () -> x.conflictSize());
        Check.refused("no conflict", Edge.STATE, x, () -> x.conflictAt(0));
        Check.refused("never played out", Edge.STATE, x, () -> x.playedAt(0));
        Check.refused("no frame", Edge.STATE, x, () -> x.takeBack());
        Check.refused("no distance", Edge.ARITHMETIC, x, () -> x.meanSlack());
        Check.refused("no third event", Edge.ILLEGAL, x, () -> x.isDirect(0, 0));
        Check.refused("the event 0 has started", Edge.STATE, x, () -> x.lowest(0));
        Check.refused("the event 0 has started", Edge.STATE, x, () -> x.uppermost(0));
        Check.refused("the event 0 has started", Edge.UNSUPPORTED, x, () -> x.start(0));
        Check.refused("picks of no span", Edge.ILLEGAL, x, () -> x.play(1));
    }

    // Promise 2

    private static void tenEvents() {
        Simplespan x = Check.plan(8);
        Check.due("the tenth event has the number 9", 9, () -> x.addEvent());
        Check.refused("there are 10 events", Edge.STATE, x, () -> x.addEvent());
        Check.refused("there are 10 events still", Edge.STATE, x, () -> x.addEvent());
        Edge.range("the events are 0 to 9", x, 0, 9, Edge.NONE, n -> x.firstTime(n));
        Simplespan y = Check.plan(8);
        y.open();
        Check.due("the tenth event in a frame", 9, () -> y.addEvent());
        y.takeBack();
        Check.due("the number is free again", 9, () -> y.addEvent());
    }

    /** What was asked ahead of it does not matter. */
    private static void addedEventIsInAll() {
        Simplespan x = Check.plan(1);
        x.bound(0, 1, 5, 0);
        Check.refused("no such event", Edge.NONE, x, () -> x.distance(2, 2));
        Check.due("addEvent", 2, () -> x.addEvent());
        Check.due("distance", 0, () -> x.distance(2, 2));
        Check.due("distanceByRounds", 0, () -> x.distanceByRounds(2, 2));
        Check.due("reduced", 0, () -> x.reduced(2, 2));
        Check.due("firstTime", 0, () -> x.firstTime(2));
        Check.due("reason", '-', () -> x.reason(2));
        Check.due("play", 0, () -> x.play(0));
        Check.due("playedAt", 0, () -> x.playedAt(2));
    }

    // Promise 3

    private static void boundEvents() {
        Simplespan x = Check.plan(3);
        Edge.range("from", x, 0, 3, Edge.NONE, n -> x.bound(n, 1, 0, 0));
        Edge.range("to", x, 0, 3, Edge.NONE, n -> x.bound(2, n, 0, 0));
        Simplespan y = new Simplespan();
        Edge.outside("to, of one event", y, 0, 0, Edge.NONE, n -> y.bound(0, n, 0, 0));
        for (int e = 0; e <= 3; e++) {
            int event = e;
            Check.refused("from " + e + " to itself", Edge.ILLEGAL, x, () -> x.bound(event, event, 0, 0));
        }
    }

    private static void boundNumbers() {
        Simplespan x = Check.plan(2);
        Edge.range("most", x, -500, 500, Edge.ILLEGAL, n -> x.bound(0, 1, n, 0));
        Edge.range("label", x, -4, 4, Edge.ILLEGAL, n -> x.bound(0, 1, 0, n));
        Check.due("the first number is 0", 0, () -> x.bound(0, 1, 500, 0));
        Check.due("at most so many minutes behind", 500, () -> x.distance(0, 1));
        Check.due("the second number is 1", 1, () -> x.bound(1, 0, -500, 0));
        Check.due("so many minutes ahead at least", 500, () -> x.firstTime(1));
        Check.due("both are kept", true, () -> x.isConsistent());
        Check.due("0 is neither behind nor ahead", 2, () -> x.bound(1, 2, 0, 0));
        Check.due("over it", 500, () -> x.distance(0, 2));
    }

    private static void boundOrder() {
        Simplespan x = Check.plan(1);
        Check.refused("no such event, and most", Edge.NONE, x, () -> x.bound(0, 2, 501, 0));
        Check.refused("no such event, and label", Edge.NONE, x, () -> x.bound(2, 0, 0, 5));
        Check.refused("no such event, and the same", Edge.NONE, x, () -> x.bound(2, 2, 0, 0));
        Check.refused("no such event, and the same", Edge.NONE, x, () -> x.bound(-1, -1, 501, -5));
        Edge.fillBounds(x, 0, 40);
        Check.refused("no such event, and 40 bounds", Edge.NONE, x, () -> x.bound(0, 2, 0, 0));
        Check.refused("no such event, and all else", Edge.NONE, x, () -> x.bound(-1, -1, 501, 5));
        Check.refused("the same, and 40 bounds", Edge.ILLEGAL, x, () -> x.bound(1, 1, 0, 0));
        Check.refused("most, and 40 bounds", Edge.ILLEGAL, x, () -> x.bound(0, 1, -501, 0));
        Check.refused("label, and 40 bounds", Edge.ILLEGAL, x, () -> x.bound(0, 1, 0, -5));
        Check.refused("40 bounds", Edge.STATE, x, () -> x.bound(0, 1, 0, 0));
    }

    private static void fortyBounds() {
        Simplespan x = Check.plan(1);
        Edge.fillBounds(x, 0, 39);
        Edge.outside("39 bounds", x, 0, 38, Edge.NONE, n -> x.dropBound(n));
        Check.due("the fortieth bound", 39, () -> x.bound(0, 1, 7, 0));
        Check.due("it holds", 7, () -> x.distance(0, 1));
        Check.refused("there are 40 bounds", Edge.STATE, x, () -> x.bound(0, 1, 6, 0));
        Edge.range("40 bounds", x, 0, 39, Edge.NONE, n -> x.dropBound(n));
        x.open();
        Check.refused("in a frame too", Edge.STATE, x, () -> x.bound(0, 1, 6, 0));
        x.takeBack();
        Simplespan y = Check.plan(1);
        Edge.fillBounds(y, 0, 39);
        y.open();
        Check.due("the fortieth bound in a frame", 39, () -> y.bound(0, 1, 7, 0));
        y.takeBack();
        Check.due("its number is free again", 39, () -> y.bound(0, 1, 8, 0));
    }

    private static void droppedBoundsCount() {
        Simplespan x = Check.plan(1);
        Edge.fillBounds(x, 0, 40);
        for (int b = 0; b < 40; b++) {
            int bound = b;
            Check.due("those that hold then", 39 - b, () -> x.dropBound(bound));
        }
        Check.refused("40 bounds, none of which holds", Edge.STATE, x, () -> x.bound(0, 1, 0, 0));
        Check.due("none holds", 0.0f, () -> x.heldShare());
    }

    private static void boundsThatLevelTells() {
        Simplespan x = Check.plan(2);
        x.bound(1, 0, -5, 0);
        x.addActivity(0, 1, 9);
        x.addActivity(0, 1, 9);
        Edge.fillBounds(x, 1, 39);
        Check.due("no order: both begin with the event 0", 0, () -> x.level());
        Edge.taken("so the fortieth bound is left", x, () -> x.bound(0, 1, 0, 0));
        Simplespan y = Check.plan(3);
        y.bound(1, 0, -5, 0);
        y.bound(2, 0, 0, 0);
        y.bound(3, 2, -5, 0);
        y.addActivity(0, 1, 9);
        y.addActivity(2, 3, 9);
        Edge.fillBounds(y, 3, 39);
        Check.due("the fortieth bound is told by level()", 1, () -> y.level());
        Check.refused("there are 40 bounds", Edge.STATE, y, () -> y.bound(0, 1, 0, 0));
        Check.due("it can be dropped by its number", 39, () -> y.dropBound(39));
    }

    // Promise 4

    private static void dropBoundEdges() {
        Simplespan x = Check.plan(1);
        Edge.outside("no bound", x, 0, -1, Edge.NONE, n -> x.dropBound(n));
        x.bound(0, 1, 1, 0);
        x.bound(0, 1, 2, 0);
        x.bound(0, 1, 3, 0);
        Edge.range("bounds 0 to 2", x, 0, 2, Edge.NONE, n -> x.dropBound(n));
        Check.due("dropBound", 2, () -> x.dropBound(1));
        Check.refused("it was dropped", Edge.STATE, x, () -> x.dropBound(1));
        Check.refused("a number that has not come yet", Edge.NONE, x, () -> x.dropBound(3));
        x.open();
        x.dropBound(0);
        x.takeBack();
        Check.due("dropping was taken back", 1, () -> x.dropBound(0));
    }

    private static void dropBoundAnswers() {
        Simplespan x = Check.plan(1);
        x.bound(0, 1, 9, 0);
        x.bound(0, 1, 8, 1);
        x.bound(0, 1, 7, -1);
        x.bound(0, 1, 6, 2);
        x.observe(1, true);
        Check.due("one that does not hold", 2, () -> x.dropBound(3));
        Check.due("one that holds by its label", 1, () -> x.dropBound(1));
        Check.due("the last one", 0, () -> x.dropBound(0));
        Check.due("none held before", 0, () -> x.dropBound(2));
        Check.refused("it was dropped, and did not hold", Edge.STATE, x, () -> x.dropBound(3));
    }

    // Promise 5

    private static void spanEvents() {
        Simplespan x = Check.plan(4);
        Edge.outside("from", x, 0, 4, Edge.NONE, n -> x.addSpan(n, 4, 1, 1));
        Edge.taken("from 0", x, () -> x.addSpan(0, 4, 1, 1));
        Edge.outside("to", x, 0, 4, Edge.NONE, n -> x.addSpan(0, n, 1, 1));
        Edge.taken("to 1", x, () -> x.addSpan(0, 1, 1, 1));
        Edge.taken("to 4", x, () -> x.addSpan(0, 4, 1, 1));
        Check.refused("to 0", Edge.ILLEGAL, x, () -> x.addSpan(0, 0, 1, 1));
        Check.refused("to the same", Edge.ILLEGAL, x, () -> x.addSpan(3, 3, 1, 1));
        Check.refused("to one less", Edge.ILLEGAL, x, () -> x.addSpan(3, 2, 1, 1));
        Check.refused("from the last one", Edge.ILLEGAL, x, () -> x.addSpan(4, 0, 1, 1));
        Edge.taken("to one more", x, () -> x.addSpan(3, 4, 1, 1));
    }

    private static void spanLengths() {
        Simplespan x = Check.plan(2);
        Edge.range("least", x, 1, 200, Edge.ILLEGAL, n -> x.addSpan(0, 1, n, 200));
        Edge.range("greatest", x, 1, 200, Edge.ILLEGAL, n -> x.addSpan(0, 1, 1, n));
        Edge.range("greatest, not less than 7", x, 7, 200, Edge.ILLEGAL, n -> x.addSpan(0, 1, 7, n));
        Check.refused("least 200, greatest 199", Edge.ILLEGAL, x, () -> x.addSpan(0, 1, 200, 199));
        Check.refused("least 2, greatest 1", Edge.ILLEGAL, x, () -> x.addSpan(0, 1, 2, 1));
        Check.refused("least 0, greatest 0", Edge.ILLEGAL, x, () -> x.addSpan(0, 1, 0, 0));
        Check.refused("least 201, greatest 201", Edge.ILLEGAL, x, () -> x.addSpan(0, 1, 201, 201));
        Check.due("1 to 200", 0, () -> x.addSpan(0, 1, 1, 200));
        Check.due("the greatest length", 200, () -> x.distance(0, 1));
        Check.due("the least length", -1, () -> x.distance(1, 0));
        Check.due("200 to 200", 1, () -> x.addSpan(1, 2, 200, 200));
        Check.due("both", -201, () -> x.distance(2, 0));
    }

    private static void spanStates() {
        Simplespan x = Check.plan(6);
        Check.due("the first number is 0", 0, () -> x.addSpan(0, 2, 1, 5));
        Check.refused("the end is that of another span", Edge.STATE, x, () -> x.addSpan(1, 2, 1, 5));
        Check.refused("the same span once more", Edge.STATE, x, () -> x.addSpan(0, 2, 1, 5));
        Edge.taken("from the end of another span", x, () -> x.addSpan(2, 3, 1, 5));
        Edge.taken("to the first event of another span", x, () -> {
            x.addSpan(3, 4, 1, 5);
            return x.addSpan(1, 3, 1, 5);
        });
        Check.due("the second span", 1, () -> x.addSpan(0, 3, 1, 5));
        Check.due("the third span", 2, () -> x.addSpan(0, 4, 1, 5));
        Check.refused("there are 3 spans", Edge.STATE, x, () -> x.addSpan(0, 5, 1, 5));
        Check.refused("there are 3 spans", Edge.STATE, x, () -> x.addSpan(5, 6, 1, 5));
        x.pass(5);
        Edge.range("spans 0 to 2", x, 0, 2, Edge.NONE, n -> x.end(n));
        x.end(0);
        Check.refused("there are 3 spans, one of which has ended", Edge.STATE, x, () -> x.addSpan(0, 5, 1, 5));
    }

    private static void spanStarted() {
        Simplespan x = Check.plan(6);
        x.addSpan(0, 1, 2, 5);
        x.start(3);
        Check.refused("the first event has started", Edge.STATE, x, () -> x.addSpan(3, 4, 1, 5));
        Check.refused("the end has started", Edge.STATE, x, () -> x.addSpan(2, 3, 1, 5));
        Check.refused("the end has started, from the event 0", Edge.STATE, x, () -> x.addSpan(0, 3, 1, 5));
        x.pass(2);
        x.end(0);
        Check.refused("the end of a span that has ended", Edge.STATE, x, () -> x.addSpan(1, 2, 1, 5));
        Edge.taken("neither has started", x, () -> x.addSpan(2, 4, 1, 5));
        Edge.taken("the event 0 has started, which is allowed", x, () -> x.addSpan(0, 4, 1, 5));
    }

    private static void spanOrder() {
        Simplespan x = Check.plan(5);
        Check.refused("no such event, and no greater number", Edge.NONE, x, () -> x.addSpan(6, 6, 1, 1));
        Check.refused("no such event, and a lesser number", Edge.NONE, x, () -> x.addSpan(6, 1, 1, 1));
        Check.refused("no such event, and a length", Edge.NONE, x, () -> x.addSpan(0, 6, 0, 1));
        Check.refused("no such event, and a length", Edge.NONE, x, () -> x.addSpan(-1, 1, 1, 201));
        x.addSpan(0, 1, 1, 1);
        Check.refused("a length, and another span's end", Edge.ILLEGAL, x, () -> x.addSpan(0, 1, 0, 1));
        Check.refused("greatest, and another span's end", Edge.ILLEGAL, x, () -> x.addSpan(0, 1, 2, 1));
        x.start(2);
        Check.refused("a lesser number, and it has started", Edge.ILLEGAL, x, () -> x.addSpan(2, 1, 1, 1));
        Check.refused("a length, and it has started", Edge.ILLEGAL, x, () -> x.addSpan(2, 3, 1, 201));
        Check.refused("a length, and its end has started", Edge.ILLEGAL, x, () -> x.addSpan(0, 2, 0, 1));
        Check.refused("a lesser number, and its end has started", Edge.ILLEGAL, x, () -> x.addSpan(3, 2, 1, 1));
        Check.refused("no such event, and its end has started", Edge.NONE, x, () -> x.addSpan(-1, 2, 1, 1));
        x.addSpan(0, 3, 1, 1);
        x.addSpan(0, 4, 1, 1);
        Check.refused("no such event, and 3 spans", Edge.NONE, x, () -> x.addSpan(0, 6, 1, 1));
        Check.refused("no greater number, and 3 spans", Edge.ILLEGAL, x, () -> x.addSpan(5, 5, 1, 1));
        Check.refused("a length, and 3 spans", Edge.ILLEGAL, x, () -> x.addSpan(0, 5, 201, 201));
        Check.refused("3 spans, and all other states", Edge.STATE, x, () -> x.addSpan(0, 1, 1, 1));
    }

    /** The event 0 has started at the minute 0, whenever the span is told. */
    private static void spanOfTheEventZero() {
        Simplespan x = Check.plan(2);
        x.pass(5);
        Check.due("greatest just now", 0, () -> x.addSpan(0, 1, 5, 5));
        Check.refused("it has gone on for 5 minutes", Edge.UNSUPPORTED, x, () -> x.pass(1));
        Check.due("it can end", 5, () -> x.end(0));
        Check.due("one that has gone on for too long", 1, () -> x.addSpan(0, 2, 1, 4));
        Check.refused("it cannot end", Edge.UNSUPPORTED, x, () -> x.end(1));
        Check.refused("nor can minutes pass", Edge.UNSUPPORTED, x, () -> x.pass(1));
        Check.due("the net is consistent", true, () -> x.isConsistent());
    }

    // Promise 6

    private static void observeEdges() {
        Simplespan x = Check.plan(1);
        Edge.range("label", x, 1, 4, Edge.ILLEGAL, n -> x.observe(n, true));
        Edge.range("label", x, 1, 4, Edge.ILLEGAL, n -> x.observe(n, false));
        for (int k = 1; k <= 4; k++) {
            int label = k;
            boolean isTrue = k % 2 == 0;
            Check.due("no bound holds", 0, () -> x.observe(label, isTrue));
            Check.refused("it was observed", Edge.STATE, x, () -> x.observe(label, true));
            Check.refused("it was observed", Edge.STATE, x, () -> x.observe(label, false));
        }
        Check.refused("no such label, when all were observed", Edge.ILLEGAL, x, () -> x.observe(5, true));
    }

    private static void observeAnswers() {
        for (int k = 1; k <= 4; k++) {
            int label = k;
            Simplespan x = Check.plan(1);
            x.bound(0, 1, 9, label);
            x.bound(0, 1, 8, -label);
            x.bound(0, 1, 7, -label);
            Check.unsupported("an open label lets none hold", () -> x.distance(0, 1));
            Edge.tried("true", 1, x, () -> x.observe(label, true));
            Edge.tried("false", 2, x, () -> x.observe(label, false));
            Check.due("a chosen label", 4, () -> x.choose());
            Edge.tried("can be observed as it was chosen", 1, x, () -> x.observe(label, true));
            Edge.tried("and otherwise", 2, x, () -> x.observe(label, false));
            x.bound(1, 0, -8, 0);
            Check.due("the net need not stay consistent", 3, () -> x.observe(label, false));
            Check.due("isConsistent", false, () -> x.isConsistent());
        }
    }

    // Promise 8

    private static void labelLetters() {
        Simplespan x = Check.plan(1);
        Edge.range("label", x, 1, 4, Edge.ILLEGAL, n -> x.labelOf(n));
        letters("open", "oooo", x);
        x.observe(2, true);
        letters("observed", "otoo", x);
        x.observe(3, false);
        letters("observed", "otfo", x);
        x.bound(1, 0, -5, 0);
        x.bound(0, 1, 4, 4);
        x.choose();
        letters("chosen", "TtfF", x);
        x.observe(1, false);
        x.observe(4, true);
        letters("chosen ones observed", "ftft", x);
        Edge.outside("label", x, 1, 4, Edge.ILLEGAL, n -> x.labelOf(n));
    }

    private static void letters(String what, String want, Simplespan x) {
        for (int k = 1; k <= 4; k++) {
            int label = k;
            Check.due(what + " " + k, want.charAt(k - 1), () -> x.labelOf(label));
        }
    }

    // Promise 7

    private static void chooseNone() {
        Simplespan x = Edge.broken(1);
        Check.refused("in no way", Edge.UNSUPPORTED, x, () -> x.choose());
        letters("none was chosen", "oooo", x);
        Simplespan y = Check.plan(1);
        y.bound(1, 0, -5, 0);
        y.bound(0, 1, 4, 1);
        y.bound(0, 1, 4, -1);
        Check.due("with the label open it is consistent", true, () -> y.isConsistent());
        Check.refused("but open is no way to choose", Edge.UNSUPPORTED, y, () -> y.choose());
    }

    /** Of all sixteen ways the first one in the document's order is taken that is left. */
    private static void chooseEachWay() {
        for (int way = 0; way < 16; way++) {
            Simplespan x = Check.plan(1);
            x.bound(1, 0, -5, 0);
            StringBuilder want = new StringBuilder();
            int trues = 0;
            for (int k = 1; k <= 4; k++) {
                boolean isTrue = (way & (1 << (k - 1))) == 0;
                x.bound(0, 1, 4, isTrue ? -k : k);
                want.append(isTrue ? 'T' : 'F');
                trues += isTrue ? 1 : 0;
            }
            Check.due("true labels of the way " + way, trues, () -> x.choose());
            letters("the way " + way, want.toString(), x);
            Check.due("it is taken once more", trues, () -> x.choose());
            x.bound(0, 1, 4, (way & 1) == 0 ? 1 : -1);
            Check.refused("now none is left", Edge.UNSUPPORTED, x, () -> x.choose());
            letters("the choice stays", want.toString(), x);
        }
    }

    /** Two bounds, one of each label, that cannot both be kept. */
    private static void excludeBoth(Simplespan x, int one, int other) {
        x.bound(0, 1, 4, one);
        x.bound(1, 2, 0, other);
    }

    private static Simplespan lateSecond() {
        Simplespan x = Check.plan(2);
        x.bound(2, 0, -5, 0);
        return x;
    }

    private static void chooseTheLowerLabel() {
        for (int i = 1; i <= 4; i++) {
            for (int j = i + 1; j <= 4; j++) {
                Simplespan x = lateSecond();
                excludeBoth(x, j, i);
                Check.due("all but one", 3, () -> x.choose());
                StringBuilder want = new StringBuilder("TTTT");
                want.setCharAt(j - 1, 'F');
                letters("of " + i + " and " + j + " the lower one is true", want.toString(), x);
                x.observe(j, true);
                Check.due("all but one", 3, () -> x.choose());
                want.setCharAt(j - 1, 't');
                want.setCharAt(i - 1, 'F');
                letters("of " + i + " and " + j + " the one that was observed is", want.toString(), x);
            }
        }
    }

    /** The label 1 true goes ahead of more labels true. */
    private static void chooseOneForTwo() {
        Simplespan x = lateSecond();
        excludeBoth(x, 1, 2);
        x.bound(1, 2, 0, 3);
        x.bound(1, 2, 0, 4);
        Check.due("one is true", 1, () -> x.choose());
        letters("the label 1", "TFFF", x);
        Simplespan y = lateSecond();
        excludeBoth(y, 2, 3);
        y.bound(1, 2, 0, 4);
        y.bound(0, 2, 4, 1);
        Check.due("one is true", 1, () -> y.choose());
        letters("the label 2", "FTFF", y);
        Check.due("though two could be", true, () -> y.isPossible(12, 3));
    }

    private static void chooseObserved() {
        Simplespan x = Check.plan(1);
        x.bound(1, 0, -5, 0);
        x.bound(0, 1, 4, 1);
        x.bound(0, 1, 4, -2);
        x.observe(1, true);
        Check.refused("an observed label is not chosen", Edge.UNSUPPORTED, x, () -> x.choose());
        letters("nothing is chosen", "tooo", x);
        x.dropBound(1);
        Check.due("the observed one is counted", 4, () -> x.choose());
        letters("chosen", "tTTT", x);
        for (int k = 2; k <= 4; k++) {
            x.observe(k, k == 2);
        }
        Check.due("all were observed", 2, () -> x.choose());
        letters("nothing is chosen anew", "ttff", x);
    }

    /** What was asked ahead of it does not matter. */
    private static void chooseIsInAll() {
        Simplespan x = Check.plan(1);
        x.addSpan(0, 1, 3, 10);
        x.bound(0, 1, 9, 2);
        Check.due("ahead of it", true, () -> x.isSeen());
        Check.due("ahead of it", 10, () -> x.distance(0, 1));
        Check.due("choose", 4, () -> x.choose());
        Check.due("the bound holds", 9, () -> x.distance(0, 1));
        Check.due("the bound holds", false, () -> x.isSeen());
        x.bound(1, 0, -10, 0);
        Check.due("not consistent", 2, () -> x.conflictSize());
        Check.due("choose anew", 3, () -> x.choose());
        Check.due("the bound does not hold", 10, () -> x.distance(0, 1));
        Check.refused("consistent", Edge.STATE, x, () -> x.conflictSize());
    }

    // Promise 9

    private static void possibleEdges() {
        Simplespan x = Check.plan(1);
        Edge.range("trues", x, 0, 15, Edge.ILLEGAL, n -> x.isPossible(n, 0));
        Edge.range("falses", x, 0, 15, Edge.ILLEGAL, n -> x.isPossible(0, n));
        for (int k = 1; k <= 4; k++) {
            int sum = 1 << (k - 1);
            Check.refused("the label " + k + " is in both", Edge.ILLEGAL, x, () -> x.isPossible(sum, sum));
            Check.refused("the label " + k + " is in both", Edge.ILLEGAL, x, () -> x.isPossible(15, sum));
            Edge.taken("the label " + k + " is in one", x, () -> x.isPossible(15 - sum, sum));
        }
        Check.refused("all are in both", Edge.ILLEGAL, x, () -> x.isPossible(15, 15));
        Check.refused("16 and 16", Edge.ILLEGAL, x, () -> x.isPossible(16, 16));
    }

    private static void possibleWays() {
        for (int k = 1; k <= 4; k++) {
            int sum = 1 << (k - 1);
            Simplespan x = Check.plan(1);
            x.bound(1, 0, -5, 0);
            x.bound(0, 1, 4, k);
            Check.due("open", true, () -> x.isPossible(0, 0));
            Check.due("true", false, () -> x.isPossible(sum, 0));
            Check.due("false", true, () -> x.isPossible(0, sum));
            Check.due("all others true", true, () -> x.isPossible(15 - sum, sum));
            Check.due("all others false", false, () -> x.isPossible(sum, 15 - sum));
            x.observe(k, true);
            Check.due("the net is not consistent", false, () -> x.isConsistent());
            Check.due("whatever they are now", true, () -> x.isPossible(0, 0));
            x.bound(0, 1, 4, -k);
            Check.due("whatever they are now", false, () -> x.isPossible(0, sum));
            Check.due("a label that is open lets neither hold", true, () -> x.isPossible(0, 0));
            letters("nothing is chosen", "oooo".substring(0, k - 1) + "t" + "oooo".substring(k), x);
        }
        Simplespan y = Edge.broken(1);
        Check.due("not consistent without a label", false, () -> y.isPossible(0, 0));
    }

    /** A bound holds if it is not dropped, and has no label, or one that is as it asks. */
    private static void labelsOfBounds() {
        int[][] due = {{-4, 0, 0, 1}, {-1, 0, 0, 1}, {0, 1, 1, 1}, {1, 0, 1, 0}, {4, 0, 1, 0}};
        for (int[] row : due) {
            Simplespan x = Check.plan(1);
            x.bound(0, 1, 5, row[0]);
            String what = "label " + row[0];
            Check.due(what + " open", (float) row[1], () -> x.heldShare());
            int label = row[0] == 0 ? 1 : Math.abs(row[0]);
            Edge.tried(what + " true", row[2], x, () -> x.observe(label, true));
            Edge.tried(what + " false", row[3], x, () -> x.observe(label, false));
            Check.due(what + " chosen as true", 4, () -> x.choose());
            Check.due(what + " chosen as true", (float) row[2], () -> x.heldShare());
            x.bound(1, 0, -5, 0);
            x.bound(0, 1, 4, label);
            Check.due(what + " chosen as false", 3, () -> x.choose());
            Check.due(what + " chosen as false", (float) (1 + row[3]) / 3f, () -> x.heldShare());
            Check.due(what + " dropped", 1, () -> x.dropBound(0));
        }
    }

    // Promise 47

    private static void heldShareEdges() {
        Simplespan x = Check.plan(1);
        Check.refused("none was told", Edge.ARITHMETIC, x, () -> x.heldShare());
        x.bound(0, 1, 5, 1);
        Check.due("none of one", 0.0f, () -> x.heldShare());
        x.observe(1, true);
        Check.due("one of one", 1.0f, () -> x.heldShare());
        x.dropBound(0);
        Check.due("a dropped one was told", 0.0f, () -> x.heldShare());
        for (int told = 2; told <= 40; told++) {
            int number = told;
            x.bound(0, 1, 500, 0);
            Check.due("share of " + told, (float) (number - 1) / (float) number, () -> x.heldShare());
        }
        Simplespan y = Check.plan(1);
        y.open();
        y.bound(0, 1, 5, 0);
        y.takeBack();
        Check.refused("the only one was taken back", Edge.ARITHMETIC, y, () -> y.heldShare());
        Simplespan z = Edge.broken(1);
        Check.due("the net need not be consistent", 1.0f, () -> z.heldShare());
    }
}
