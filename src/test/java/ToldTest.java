import java.util.NoSuchElementException;

/** Promises 1 to 9 and 47: what is told, and labels. */
public final class ToldTest {
    public static void main(String[] args) {
        newObject();
        addEvent();
        bound();
        boundNumbers();
        dropBound();
        addSpan();
        addSpanStates();
        observe();
        choose();
        chooseOrder();
        isPossible();
        heldShare();
        Check.end();
    }

    private static void newObject() {
        Simplespan x = new Simplespan();
        Check.due("now", 0, () -> x.now());
        Check.due("the event 0 has started", 0, () -> x.startedAt(0));
        Check.noSuch("there is no event 1", () -> x.startedAt(1));
        Check.due("isConsistent", true, () -> x.isConsistent());
        Check.due("isSeen", true, () -> x.isSeen());
        Check.due("isStrong", true, () -> x.isStrong());
        Check.due("isWeak", true, () -> x.isWeak());
        Check.due("rounds", 0, () -> x.rounds());
        Check.due("capacity", 9, () -> x.setCapacity(9));
        for (int k = 1; k <= 4; k++) {
            int label = k;
            Check.due("labelOf", 'o', () -> x.labelOf(label));
        }
        Check.arithmetic("no bound", () -> x.heldShare());
        Check.state("no frame", () -> x.takeBack());
        Check.due("cost", 0, () -> x.cost());
        Check.noSuch("no peak", () -> x.peak());
    }

    private static void addEvent() {
        Simplespan x = Check.plan(9);
        Check.state("the event is not started", () -> x.startedAt(9));
        Check.refused("an 11th event", IllegalStateException.class, x, () -> x.addEvent());
        Check.noSuch("there is no event 10", () -> x.startedAt(10));
    }

    private static void bound() {
        Simplespan x = Check.plan(2);
        Check.due("bound", 0, () -> x.bound(0, 1, 500, 0));
        Check.due("bound", 1, () -> x.bound(1, 0, -500, 4));
        Check.due("bound", 2, () -> x.bound(1, 2, 7, -4));
        Check.due("bound", 3, () -> x.bound(1, 2, 9, 0));
        Check.due("a label that is open", 509, () -> x.distance(0, 2));
        Class<NoSuchElementException> none = NoSuchElementException.class;
        Class<IllegalArgumentException> illegal = IllegalArgumentException.class;
        Check.refused("from -1", none, x, () -> x.bound(-1, 1, 0, 0));
        Check.refused("from 3", none, x, () -> x.bound(3, 1, 0, 0));
        Check.refused("to 3", none, x, () -> x.bound(1, 3, 0, 0));
        Check.refused("to 10", none, x, () -> x.bound(1, 10, 501, 5));
        Check.refused("both are the same and none", none, x, () -> x.bound(3, 3, 0, 0));
        Check.refused("greatest int", none, x, () -> x.bound(Integer.MAX_VALUE, Integer.MIN_VALUE, 0, 0));
        Check.refused("the same", illegal, x, () -> x.bound(1, 1, 0, 0));
        Check.refused("most 501", illegal, x, () -> x.bound(0, 1, 501, 0));
        Check.refused("most -501", illegal, x, () -> x.bound(0, 1, -501, 0));
        Check.refused("label 5", illegal, x, () -> x.bound(0, 1, 0, 5));
        Check.refused("label -5", illegal, x, () -> x.bound(0, 1, 0, -5));
        Check.due("the next number", 4, () -> x.bound(0, 1, 0, 0));
    }

    private static void boundNumbers() {
        Simplespan x = Check.plan(1);
        for (int i = 0; i < 40; i++) {
            int number = i;
            Check.due("bound", number, () -> x.bound(0, 1, 100 - number, 0));
        }
        Check.refused("a 41st bound", IllegalStateException.class, x, () -> x.bound(0, 1, 1, 0));
        Check.illegal("a wrong 41st bound", () -> x.bound(0, 1, 501, 0));
        Check.noSuch("a 41st bound to none", () -> x.bound(0, 2, 501, 0));
        Check.due("dropBound", 39, () -> x.dropBound(39));
        Check.state("a dropped bound keeps its number", () -> x.bound(0, 1, 1, 0));
        Check.due("distance", 62, () -> x.distance(0, 1));
    }

    private static void dropBound() {
        Simplespan x = Check.plan(1);
        x.bound(0, 1, 10, 0);
        x.bound(0, 1, 5, 1);
        x.bound(0, 1, 7, 0);
        Check.refused("bound 3", NoSuchElementException.class, x, () -> x.dropBound(3));
        Check.refused("bound -1", NoSuchElementException.class, x, () -> x.dropBound(-1));
        Check.refused("bound 40", NoSuchElementException.class, x, () -> x.dropBound(40));
        Check.due("dropBound", 1, () -> x.dropBound(2));
        Check.due("distance", 10, () -> x.distance(0, 1));
        Check.refused("a dropped bound", IllegalStateException.class, x, () -> x.dropBound(2));
        Check.due("one that does not hold", 1, () -> x.dropBound(1));
        Check.due("it stays dropped", 1, () -> x.observe(1, true));
        Check.due("dropBound", 0, () -> x.dropBound(0));
        Check.due("the number goes on", 3, () -> x.bound(0, 1, 1, 0));
    }

    private static void addSpan() {
        Simplespan x = Check.plan(5);
        Class<NoSuchElementException> none = NoSuchElementException.class;
        Class<IllegalArgumentException> illegal = IllegalArgumentException.class;
        Check.refused("from 6", none, x, () -> x.addSpan(6, 7, 1, 2));
        Check.refused("to 6", none, x, () -> x.addSpan(1, 6, 0, 2));
        Check.refused("from -1", none, x, () -> x.addSpan(-1, 1, 1, 2));
        Check.refused("the same", illegal, x, () -> x.addSpan(1, 1, 1, 2));
        Check.refused("a lesser end", illegal, x, () -> x.addSpan(2, 1, 1, 2));
        Check.refused("least 0", illegal, x, () -> x.addSpan(1, 2, 0, 2));
        Check.refused("least 201", illegal, x, () -> x.addSpan(1, 2, 201, 201));
        Check.refused("greatest 201", illegal, x, () -> x.addSpan(1, 2, 1, 201));
        Check.refused("greatest less", illegal, x, () -> x.addSpan(1, 2, 5, 4));
        Check.due("addSpan", 0, () -> x.addSpan(1, 2, 1, 200));
        Check.due("distance", 200, () -> x.distance(1, 2));
        Check.due("distance back", -1, () -> x.distance(2, 1));
        Check.refused("its end twice", IllegalStateException.class, x, () -> x.addSpan(0, 2, 1, 1));
        Check.illegal("its end twice, with a wrong length", () -> x.addSpan(0, 2, 1, 0));
        Check.due("from the end of a span", 1, () -> x.addSpan(2, 3, 200, 200));
        Check.due("from the same event", 2, () -> x.addSpan(2, 4, 3, 3));
        Check.refused("a 4th span", IllegalStateException.class, x, () -> x.addSpan(0, 5, 1, 1));
    }

    private static void addSpanStates() {
        Simplespan x = Check.plan(5);
        Check.due("start", 0, () -> x.start(1));
        Check.refused("from has started", IllegalStateException.class, x, () -> x.addSpan(1, 2, 1, 1));
        Check.refused("to has started", IllegalStateException.class, x, () -> x.addSpan(0, 1, 1, 1));
        Check.due("from the event 0", 0, () -> x.addSpan(0, 2, 4, 5));
        Check.due("pass", 4, () -> x.pass(4));
        Check.due("end", 4, () -> x.end(0));
        Check.state("from an end that has started", () -> x.addSpan(2, 3, 1, 1));
        Check.due("from the event 0 still", 1, () -> x.addSpan(0, 3, 1, 1));
        Check.due("it has gone on for too long", "throws.UnsupportedOperationException", () -> x.end(1));
        Check.unsupported("so no minute passes", () -> x.pass(1));
    }

    private static void observe() {
        Simplespan x = Check.plan(1);
        x.bound(0, 1, 9, 1);
        x.bound(0, 1, 8, -1);
        x.bound(0, 1, 7, -2);
        Check.unsupported("open labels", () -> x.distance(0, 1));
        Check.refused("label 0", IllegalArgumentException.class, x, () -> x.observe(0, true));
        Check.refused("label 5", IllegalArgumentException.class, x, () -> x.observe(5, true));
        Check.refused("label -1", IllegalArgumentException.class, x, () -> x.observe(-1, true));
        Check.due("observe", 1, () -> x.observe(1, true));
        Check.due("labelOf", 't', () -> x.labelOf(1));
        Check.due("distance", 9, () -> x.distance(0, 1));
        Check.refused("observed", IllegalStateException.class, x, () -> x.observe(1, false));
        Check.due("observe", 2, () -> x.observe(2, false));
        Check.due("labelOf", 'f', () -> x.labelOf(2));
        Check.due("distance", 7, () -> x.distance(0, 1));
        Check.due("choose", 3, () -> x.choose());
        Check.due("a chosen label", 'T', () -> x.labelOf(4));
        Check.due("can be observed", 2, () -> x.observe(4, false));
        Check.due("labelOf", 'f', () -> x.labelOf(4));
        Check.illegal("label 0", () -> x.labelOf(0));
        Check.illegal("label 5", () -> x.labelOf(5));
    }

    private static void choose() {
        Simplespan x = Check.plan(1);
        x.bound(1, 0, -20, 0);
        x.bound(0, 1, 10, 1);
        x.bound(0, 1, 15, -2);
        Check.due("choose", 3, () -> x.choose());
        Check.due("label 1", 'F', () -> x.labelOf(1));
        Check.due("label 2", 'T', () -> x.labelOf(2));
        Check.due("held", 1f / 3f, () -> x.heldShare());
        x.dropBound(0);
        Check.due("chosen labels are chosen anew", 4, () -> x.choose());
        Check.due("label 1", 'T', () -> x.labelOf(1));
        x.bound(1, 0, -12, 0);
        x.observe(1, true);
        Check.refused("none", UnsupportedOperationException.class, x, () -> x.choose());
        Check.due("label 2 is as it was", 'T', () -> x.labelOf(2));
        x.dropBound(3);
        Check.due("choose", 4, () -> x.choose());
        Check.due("label 1 is observed", 't', () -> x.labelOf(1));
    }

    /** The label 1 true goes ahead of all others true. */
    private static void chooseOrder() {
        Simplespan x = Check.plan(1);
        x.bound(1, 0, -20, 1);
        x.bound(0, 1, 10, 2);
        x.bound(0, 1, 11, 3);
        Check.due("choose", 2, () -> x.choose());
        Check.due("labels", "TFFT", () -> "" + x.labelOf(1) + x.labelOf(2) + x.labelOf(3) + x.labelOf(4));
        Simplespan y = Check.plan(1);
        y.bound(1, 0, -20, 1);
        y.bound(0, 1, 10, -2);
        y.observe(2, false);
        Check.due("choose", 2, () -> y.choose());
        Check.due("labels", "FfTT", () -> "" + y.labelOf(1) + y.labelOf(2) + y.labelOf(3) + y.labelOf(4));
        Simplespan z = Check.plan(1);
        z.bound(1, 0, -20, 0);
        for (int k = 1; k <= 4; k++) {
            int label = k;
            Check.due("bound", label, () -> z.bound(0, 1, 10, label));
        }
        Check.due("all are false", 0, () -> z.choose());
        Check.due("labels", "FFFF", () -> "" + z.labelOf(1) + z.labelOf(2) + z.labelOf(3) + z.labelOf(4));
        z.bound(0, 1, 30, -4);
        Check.due("the label 4 is false", 30, () -> z.distance(0, 1));
        z.dropBound(4);
        Check.due("the label 4 can be true", 1, () -> z.choose());
        Check.due("labels", "FFFT", () -> "" + z.labelOf(1) + z.labelOf(2) + z.labelOf(3) + z.labelOf(4));
        Check.unsupported("a bound of a false label", () -> z.distance(0, 1));
        z.bound(0, 1, 40, 4);
        Check.due("a bound of the label 4", 40, () -> z.distance(0, 1));
    }

    private static void isPossible() {
        Simplespan x = Check.plan(1);
        x.bound(1, 0, -20, 1);
        x.bound(0, 1, 10, 2);
        x.bound(0, 1, 10, -3);
        Check.due("all open", true, () -> x.isPossible(0, 0));
        Check.due("1", true, () -> x.isPossible(1, 0));
        Check.due("1 and 2", false, () -> x.isPossible(3, 0));
        Check.due("1 and not 3", false, () -> x.isPossible(1, 4));
        Check.due("1, not 2, 3", true, () -> x.isPossible(5, 10));
        x.observe(1, true);
        x.observe(2, true);
        Check.due("isConsistent", false, () -> x.isConsistent());
        Check.due("whatever they are now", true, () -> x.isPossible(1, 2));
        Class<IllegalArgumentException> illegal = IllegalArgumentException.class;
        Check.refused("16", illegal, x, () -> x.isPossible(16, 0));
        Check.refused("-1", illegal, x, () -> x.isPossible(-1, 0));
        Check.refused("falses 16", illegal, x, () -> x.isPossible(0, 16));
        Check.refused("falses -1", illegal, x, () -> x.isPossible(0, -1));
        Check.refused("in both", illegal, x, () -> x.isPossible(6, 4));
        Check.due("15 and 0", false, () -> x.isPossible(15, 0));
        Check.due("0 and 15", true, () -> x.isPossible(0, 15));
    }

    private static void heldShare() {
        Simplespan x = Check.plan(1);
        Check.refused("none told", ArithmeticException.class, x, () -> x.heldShare());
        x.bound(0, 1, 1, 0);
        Check.due("all", 1.0f, () -> x.heldShare());
        x.bound(0, 1, 1, 1);
        x.bound(0, 1, 1, -1);
        Check.due("one of three", 1f / 3f, () -> x.heldShare());
        x.observe(1, false);
        Check.due("two of three", 2f / 3f, () -> x.heldShare());
        x.dropBound(0);
        x.dropBound(2);
        Check.due("none of three", 0.0f, () -> x.heldShare());
    }
}
