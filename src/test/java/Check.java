/** Compares answers with those that are due, and ends a test. */
final class Check {
    /** A call whose answer, or whose exception, is looked at. */
    interface Call {
        Object answer();
    }

    private static int wrong = 0;
    private static int right = 0;

    private Check() {
    }

    /** The answer of a call, or throws. and the name of its exception. */
    static String told(Call call) {
        try {
            return String.valueOf(call.answer());
        } catch (RuntimeException e) {
            return "throws." + e.getClass().getSimpleName();
        }
    }

    static void due(String what, Object want, Call call) {
        same(what, String.valueOf(want), told(call));
    }

    static void same(String what, String want, String got) {
        if (want.equals(got)) {
            right++;
            return;
        }
        wrong++;
        if (wrong <= 40) {
            System.out.println(what + " answered " + unlike(got, want) + ", due is " + unlike(want, got));
        }
    }

    /** A text, or of one with many lines the first one that the other text has not. */
    private static String unlike(String text, String other) {
        String[] lines = text.split("\n");
        String[] others = other.split("\n");
        for (int i = 0; i < lines.length && lines.length > 1; i++) {
            if (i >= others.length || !lines[i].equals(others[i])) {
                return lines[i];
            }
        }
        return text;
    }

    /** A call that throws this, and changes nothing that the object tells or holds. */
    static void refused(String what, Class<? extends RuntimeException> exception, Simplespan x, Call call) {
        String before = Snapshot.of(x) + State.of(x);
        due(what, "throws." + exception.getSimpleName(), call);
        same(what + " changes nothing", before, Snapshot.of(x) + State.of(x));
    }

    /** A new plan with so many events beside the event 0. */
    static Simplespan plan(int events) {
        Simplespan x = new Simplespan();
        for (int i = 1; i <= events; i++) {
            int number = i;
            due("addEvent", number, () -> x.addEvent());
        }
        return x;
    }

    static void noSuch(String what, Call call) {
        due(what, "throws.NoSuchElementException", call);
    }

    static void illegal(String what, Call call) {
        due(what, "throws.IllegalArgumentException", call);
    }

    static void state(String what, Call call) {
        due(what, "throws.IllegalStateException", call);
    }

    static void unsupported(String what, Call call) {
        due(what, "throws.UnsupportedOperationException", call);
    }

    static void arithmetic(String what, Call call) {
        due(what, "throws.ArithmeticException", call);
    }

    static void end() {
        System.out.println(right + " answers are as due, " + wrong + " are not");
        if (wrong != 0 || right == 0) {
            System.exit(1);
        }
    }
}
