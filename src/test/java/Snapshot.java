/** All that an object tells without a change, and all that its plan holds, as one text. */
final class Snapshot {
    private Snapshot() {
    }

    static String of(Simplespan x) {
        StringBuilder text = new StringBuilder();
        ofLabels(x, text);
        ofPairs(x, text);
        ofPlan(x, text);
        ofEvents(x, text);
        ofResource(x, text);
        return text.append(State.ofPlan(x)).toString();
    }

    private static void add(StringBuilder text, String name, Check.Call call) {
        text.append(name).append('=').append(Check.told(call)).append('\n');
    }

    private static void ofLabels(Simplespan x, StringBuilder text) {
        for (int k = 1; k <= 4; k++) {
            int label = k;
            add(text, "labelOf" + k, () -> x.labelOf(label));
        }
        for (int trues = 0; trues < 16; trues++) {
            int sum = trues;
            add(text, "isPossible" + sum, () -> x.isPossible(sum, 15 - sum));
        }
    }

    private static void ofPairs(Simplespan x, StringBuilder text) {
        for (int i = 0; i < 10; i++) {
            for (int j = 0; j < 10; j++) {
                int from = i;
                int to = j;
                add(text, "distance" + i + j, () -> x.distance(from, to));
                add(text, "reduced" + i + j, () -> x.reduced(from, to));
                add(text, "waitFor" + i + j, () -> x.waitFor(from, to));
            }
        }
    }

    private static void ofPlan(Simplespan x, StringBuilder text) {
        add(text, "isConsistent", () -> x.isConsistent());
        add(text, "conflictSize", () -> x.conflictSize());
        for (int i = 0; i < 5; i++) {
            int index = i;
            add(text, "conflictAt" + i, () -> x.conflictAt(index));
        }
        add(text, "isWeak", () -> x.isWeak());
        add(text, "isStrong", () -> x.isStrong());
        add(text, "isSeen", () -> x.isSeen());
        add(text, "rounds", () -> x.rounds());
        for (int i = 0; i < 8; i++) {
            int picks = i;
            add(text, "failure" + i, () -> x.failure(picks));
        }
        add(text, "isKept", () -> x.isKept());
        add(text, "now", () -> x.now());
        add(text, "cost", () -> x.cost());
        add(text, "heldShare", () -> x.heldShare());
        add(text, "meanSlack", () -> x.meanSlack());
    }

    private static void ofEvents(Simplespan x, StringBuilder text) {
        for (int i = 0; i < 10; i++) {
            int event = i;
            add(text, "playedAt" + i, () -> x.playedAt(event));
            add(text, "reason" + i, () -> x.reason(event));
            add(text, "lowest" + i, () -> x.lowest(event));
            add(text, "uppermost" + i, () -> x.uppermost(event));
            add(text, "startedAt" + i, () -> x.startedAt(event));
            add(text, "firstTime" + i, () -> x.firstTime(event));
            add(text, "costOf0," + i, () -> x.costOf(event, 0));
            add(text, "costOf999," + i, () -> x.costOf(event, 999));
        }
    }

    private static void ofResource(Simplespan x, StringBuilder text) {
        add(text, "peak", () -> x.peak());
        add(text, "peakSet", () -> x.peakSet());
        for (int i = 0; i < 60; i++) {
            int minute = i;
            add(text, "use" + i, () -> x.use(minute));
        }
        for (int i = 0; i < 5; i++) {
            int one = i;
            int other = (i + 1) % 5;
            add(text, "slack" + one + other, () -> x.slack(one, other));
        }
    }
}
