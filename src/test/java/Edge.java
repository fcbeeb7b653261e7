import java.util.NoSuchElementException;

/** Calls at the edges of what the document allows. */
final class Edge {
    static final Class<NoSuchElementException> NONE = NoSuchElementException.class;
    static final Class<IllegalArgumentException> ILLEGAL = IllegalArgumentException.class;
    static final Class<IllegalStateException> STATE = IllegalStateException.class;
    static final Class<UnsupportedOperationException> UNSUPPORTED = UnsupportedOperationException.class;
    static final Class<IndexOutOfBoundsException> INDEX = IndexOutOfBoundsException.class;
    static final Class<ArithmeticException> ARITHMETIC = ArithmeticException.class;

    /** A call with one number that is looked at. */
    interface Numbered {
        Object answer(int number);
    }

    private Edge() {
    }

    /** The least and the greatest number are taken; what is just and what is far outside is refused. */
    static void range(String what, Simplespan x, int least, int greatest,
            Class<? extends RuntimeException> exception, Numbered call) {
        for (int number : new int[] {least, greatest}) {
            taken(what + " " + number, x, () -> call.answer(number));
        }
        outside(what, x, least, greatest, exception, call);
    }

    /** What is just and what is far outside of the least and the greatest number is refused. */
    static void outside(String what, Simplespan x, int least, int greatest,
            Class<? extends RuntimeException> exception, Numbered call) {
        for (int number : new int[] {least - 1, greatest + 1, Integer.MIN_VALUE, Integer.MAX_VALUE}) {
            Check.refused(what + " " + number, exception, x, () -> call.answer(number));
        }
    }

    /** A call that answers; it is tried in a frame, so that the next one finds the plan as it was. */
    static void taken(String what, Simplespan x, Check.Call call) {
        x.open();
        String got = Check.told(call);
        x.takeBack();
        Check.same(what + " is taken (" + got + ")", "false", String.valueOf(got.startsWith("throws.")));
    }

    /** The answer of a call that is tried in a frame. */
    static void tried(String what, Object want, Simplespan x, Check.Call call) {
        x.open();
        Check.due(what, want, call);
        x.takeBack();
    }

    /** A plan with so many events beside the event 0, in which no time can be. */
    static Simplespan broken(int events) {
        Simplespan x = Check.plan(events);
        x.bound(0, 1, 5, 0);
        x.bound(1, 0, -6, 0);
        return x;
    }

    /** A plan with so many events beside the event 0 that is consistent, but cannot be controlled as it is seen. */
    static Simplespan unseen(int events) {
        Simplespan x = Check.plan(events);
        x.addSpan(0, 1, 3, 10);
        x.bound(0, 1, 9, 0);
        return x;
    }

    /** Tells bounds that ask nothing until there are so many. */
    static void fillBounds(Simplespan x, int told, int until) {
        for (int i = told; i < until; i++) {
            x.bound(0, 1, 500, 0);
        }
    }
}
