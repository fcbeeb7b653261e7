import java.util.NoSuchElementException;

/** A plan of times: events, bounds, spans, a resource, costs and frames. ../shared/DOC.md says what it promises. */
public final class Simplespan {
    private static final int MOST_EVENTS = 10;
    private static final int MOST_BOUNDS = 40;
    private static final int MOST_LABELS = 4;
    private static final int MOST_SPANS = 3;
    private static final int MOST_ACTIVITIES = 5;
    private static final int MOST_FRAMES = 4;
    private static final int MOST_ROUNDS = 60;
    private static final int CELLS = MOST_EVENTS * MOST_EVENTS;
    private static final int ALL_LABELS = (1 << MOST_LABELS) - 1;

    private static final int GREATEST_MOST = 500;
    private static final int GREATEST_LENGTH = 200;
    private static final int GREATEST_PASS = 200;
    private static final int GREATEST_DEMAND = 9;
    private static final int GREATEST_CAPACITY = 40;
    private static final int FIRST_CAPACITY = 9;
    private static final int GREATEST_MINUTE = 999;
    private static final int GREATEST_RATE = 99;
    private static final int LAST_MINUTE = 600;

    /** Told where the document has 9999 for what is not told. */
    private static final int UNTOLD = 9999;
    /** No way, no value, no upper edge: far above every sum of a consistent net. */
    private static final int NONE = 1000000000;
    /** No minute, no due minute, no number. */
    private static final int NOT_ANY = -1;

    private static final char OPEN = 'o';
    private static final char SEEN_TRUE = 't';
    private static final char SEEN_FALSE = 'f';
    private static final char CHOSEN_TRUE = 'T';
    private static final char CHOSEN_FALSE = 'F';
    private static final char NO_REASON = '-';

    private final Plan plan;
    private final Plan[] frames;
    private int openFrames;
    private final Judge judge;
    private final Net net;
    private final Reductions reductions;
    private final Player player;
    /** What is found from the plan is kept until the net changes. */
    private boolean netKnown;
    private boolean reductionsKnown;
    private boolean conflictKnown;

    public Simplespan() {
        plan = new Plan();
        frames = new Plan[MOST_FRAMES];
        for (int i = 0; i < MOST_FRAMES; i++) {
            frames[i] = new Plan();
        }
        judge = new Judge(plan);
        net = new Net();
        reductions = new Reductions(plan);
        player = new Player(plan, reductions);
    }

    // Events, bounds, spans and labels

    public int addEvent() throws IllegalStateException {
        if (plan.events >= MOST_EVENTS) {
            throw new IllegalStateException("there are 10 events");
        }
        int event = plan.events;
        plan.events = event + 1;
        forget();
        return event;
    }

    public int bound(int from, int to, int most, int label)
            throws NoSuchElementException, IllegalArgumentException, IllegalStateException {
        needEvent(from);
        needEvent(to);
        needRange(from != to);
        needRange(isWithin(most, -GREATEST_MOST, GREATEST_MOST));
        needRange(isWithin(label, -MOST_LABELS, MOST_LABELS));
        needState(plan.bounds.count < MOST_BOUNDS);
        int number = plan.bounds.add(from, to, most, label);
        forget();
        return number;
    }

    public int dropBound(int bound) throws NoSuchElementException, IllegalStateException {
        needItem(bound, plan.bounds.count);
        needState(!plan.bounds.isDropped(bound));
        plan.bounds.drop(bound);
        forget();
        return plan.countHolding();
    }

    public int addSpan(int from, int to, int least, int greatest)
            throws NoSuchElementException, IllegalArgumentException, IllegalStateException {
        needEvent(from);
        needEvent(to);
        needRange(to > from);
        needRange(isWithin(least, 1, GREATEST_LENGTH));
        needRange(isWithin(greatest, least, GREATEST_LENGTH));
        needState(plan.spans.count < MOST_SPANS);
        needState(plan.spans.withEnd(to) == NOT_ANY);
        needState(from == 0 || !plan.clock.hasStarted(from));
        needState(!plan.clock.hasStarted(to));
        int number = plan.spans.add(from, to, least, greatest);
        forget();
        return number;
    }

    public int observe(int label, boolean isTrue) throws IllegalArgumentException, IllegalStateException {
        needRange(isWithin(label, 1, MOST_LABELS));
        needState(!plan.isObserved(label));
        plan.setLabel(label, isTrue ? SEEN_TRUE : SEEN_FALSE);
        forget();
        return plan.countHolding();
    }

    public int choose() throws UnsupportedOperationException {
        int trues = judge.firstSoundWay();
        if (trues == NOT_ANY) {
            throw new UnsupportedOperationException("the net is not consistent in any way");
        }
        for (int label = 1; label <= MOST_LABELS; label++) {
            if (!plan.isObserved(label)) {
                plan.setLabel(label, (trues & bit(label - 1)) != 0 ? CHOSEN_TRUE : CHOSEN_FALSE);
            }
        }
        forget();
        return Integer.bitCount(trues);
    }

    public char labelOf(int label) throws IllegalArgumentException {
        needRange(isWithin(label, 1, MOST_LABELS));
        return plan.letterOf(label);
    }

    public boolean isPossible(int trues, int falses) throws IllegalArgumentException {
        needRange(isWithin(trues, 0, ALL_LABELS));
        needRange(isWithin(falses, 0, ALL_LABELS));
        needRange((trues & falses) == 0);
        return judge.isSoundWith(trues, falses);
    }

    // The net

    public boolean isConsistent() {
        return knownNet().isSound;
    }

    public int distance(int from, int to)
            throws NoSuchElementException, IllegalStateException, UnsupportedOperationException {
        needEvent(from);
        needEvent(to);
        return toldValue(soundNet().between(from, to));
    }

    public int distanceByRounds(int from, int to)
            throws NoSuchElementException, IllegalStateException, UnsupportedOperationException {
        needEvent(from);
        needEvent(to);
        return toldValue(soundNet().byRounds(from, to));
    }

    public boolean isDirect(int from, int to)
            throws NoSuchElementException, IllegalArgumentException, IllegalStateException {
        needEvent(from);
        needEvent(to);
        needRange(from != to);
        return soundNet().isReachedAtOnce(from, to);
    }

    public int conflictSize() throws IllegalStateException {
        needConflict();
        return judge.conflictCount;
    }

    public int conflictAt(int index) throws IllegalStateException, IndexOutOfBoundsException {
        needConflict();
        if (index < 0 || index >= judge.conflictCount) {
            throw new IndexOutOfBoundsException("no such index");
        }
        return judge.conflictBound(index);
    }

    // Control and reductions

    public boolean isWeak() {
        return judge.isSoundAtCorners();
    }

    public boolean isStrong() {
        return judge.hasFixedTimes();
    }

    public boolean isSeen() {
        return knownReductions().endedWell;
    }

    public int rounds() {
        return knownReductions().changedRounds;
    }

    public int reduced(int from, int to)
            throws NoSuchElementException, IllegalStateException, UnsupportedOperationException {
        needEvent(from);
        needEvent(to);
        return toldValue(goodReductions().valueOf(from, to));
    }

    public int waitFor(int event, int span)
            throws NoSuchElementException, IllegalStateException, UnsupportedOperationException {
        needEvent(event);
        needItem(span, plan.spans.count);
        int wait = goodReductions().waitOf(event, span);
        if (wait == 0) {
            throw new UnsupportedOperationException("there is no wait");
        }
        return wait;
    }

    // Playing the plan out

    public int play(int picks)
            throws IllegalArgumentException, IllegalStateException, UnsupportedOperationException {
        needPlayable(picks);
        if (player.failureOf(picks) != NO_REASON) {
            throw new UnsupportedOperationException("it fails");
        }
        plan.keepPlayed(player.clock);
        return player.lastStart();
    }

    public char failure(int picks) throws IllegalArgumentException, IllegalStateException {
        needPlayable(picks);
        return player.failureOf(picks);
    }

    public int playedAt(int event) throws NoSuchElementException, IllegalStateException {
        needEvent(event);
        needState(event < plan.playedEvents);
        return plan.playedStart(event);
    }

    public boolean isKept() throws IllegalStateException {
        needPlayable(0);
        for (int picks = 0; picks < bit(plan.spans.count); picks++) {
            if (player.failureOf(picks) != NO_REASON) {
                return false;
            }
        }
        return true;
    }

    // Carrying out

    public char reason(int event) throws NoSuchElementException, IllegalStateException {
        needEvent(event);
        return goodReductions().reasonAgainst(event, plan.clock);
    }

    public int lowest(int event) throws NoSuchElementException, IllegalStateException {
        needEvent(event);
        needState(!plan.clock.hasStarted(event));
        return goodReductions().windowLow(event, plan.clock);
    }

    public int uppermost(int event) throws NoSuchElementException, IllegalStateException {
        needEvent(event);
        needState(!plan.clock.hasStarted(event));
        return goodReductions().windowHigh(event, plan.clock);
    }

    public int start(int event)
            throws NoSuchElementException, IllegalStateException, UnsupportedOperationException {
        needEvent(event);
        if (goodReductions().reasonAgainst(event, plan.clock) != NO_REASON) {
            throw new UnsupportedOperationException("there is a reason against it");
        }
        plan.clock.begin(event);
        forget();
        return plan.clock.minute;
    }

    public int end(int span)
            throws NoSuchElementException, IllegalStateException, UnsupportedOperationException {
        needItem(span, plan.spans.count);
        needState(plan.spans.isRunning(span, plan.clock));
        int length = plan.spans.minutesGone(span, plan.clock);
        if (!plan.spans.canLast(span, length)) {
            throw new UnsupportedOperationException("nature cannot pick this length");
        }
        plan.clock.begin(plan.spans.endOf(span));
        forget();
        return length;
    }

    public int pass(int minutes)
            throws IllegalArgumentException, UnsupportedOperationException, IllegalStateException {
        needRange(isWithin(minutes, 1, GREATEST_PASS));
        if (plan.spans.wouldOverrun(minutes, plan.clock)) {
            throw new UnsupportedOperationException("a span would have gone on for too long");
        }
        needState(plan.clock.minute + minutes <= LAST_MINUTE);
        plan.clock.minute += minutes;
        return plan.clock.minute;
    }

    public int now() {
        return plan.clock.minute;
    }

    public int startedAt(int event) throws NoSuchElementException, IllegalStateException {
        needEvent(event);
        needState(plan.clock.hasStarted(event));
        return plan.clock.startOf(event);
    }

    // The resource

    public int addActivity(int from, int to, int demand)
            throws NoSuchElementException, IllegalArgumentException, IllegalStateException {
        needEvent(from);
        needEvent(to);
        needRange(from != to);
        needRange(isWithin(demand, 1, GREATEST_DEMAND));
        needState(plan.activities.count < MOST_ACTIVITIES);
        return plan.activities.add(from, to, demand);
    }

    public int setCapacity(int capacity) throws IllegalArgumentException {
        needRange(isWithin(capacity, 0, GREATEST_CAPACITY));
        int before = plan.activities.capacity;
        plan.activities.capacity = capacity;
        return before;
    }

    public int firstTime(int event) throws NoSuchElementException, IllegalStateException {
        needEvent(event);
        return soundNet().earliest(event);
    }

    public int use(int minute) throws IllegalArgumentException, IllegalStateException {
        needRange(isWithin(minute, 0, GREATEST_MINUTE));
        return plan.activities.demandAt(minute, soundNet());
    }

    public int peak() throws IllegalStateException, NoSuchElementException {
        return neededPeak();
    }

    public int peakSet() throws IllegalStateException, NoSuchElementException {
        return plan.activities.setAt(neededPeak(), net);
    }

    public int slack(int one, int other)
            throws NoSuchElementException, IllegalArgumentException, IllegalStateException {
        needItem(one, plan.activities.count);
        needItem(other, plan.activities.count);
        needRange(one != other);
        return plan.activities.room(one, other, soundNet());
    }

    public int level() throws IllegalStateException {
        needState(knownNet().isSound);
        int told = 0;
        while (told < MOST_BOUNDS && tellBestOrder()) {
            told++;
        }
        return told;
    }

    // Costs

    public int setCost(int event, int due, int early, int late)
            throws NoSuchElementException, IllegalArgumentException {
        needEvent(event);
        needRange(isWithin(due, 0, GREATEST_MINUTE));
        needRange(isWithin(early, 0, GREATEST_RATE));
        needRange(isWithin(late, 0, GREATEST_RATE));
        return plan.costs.put(event, due, early, late);
    }

    public int costOf(int event, int minute) throws NoSuchElementException, IllegalArgumentException {
        needEvent(event);
        needRange(isWithin(minute, 0, GREATEST_MINUTE));
        return plan.costs.at(event, minute);
    }

    public long cost() throws IllegalStateException {
        Net sound = soundNet();
        long sum = 0;
        for (int event = 0; event < plan.events; event++) {
            sum += plan.costs.at(event, sound.earliest(event));
        }
        return sum;
    }

    // Frames

    public int open() throws IllegalStateException {
        needState(openFrames < MOST_FRAMES);
        Plan frame = frameAt(openFrames);
        if (frame != null) {
            frame.copyFrom(plan);
            openFrames++;
        }
        return openFrames;
    }

    public int takeBack() throws IllegalStateException {
        needState(openFrames > 0);
        Plan frame = frameAt(openFrames - 1);
        if (frame != null) {
            plan.copyFrom(frame);
            openFrames--;
        }
        forget();
        return openFrames;
    }

    // Means

    public float heldShare() throws ArithmeticException {
        int told = plan.bounds.count;
        if (told == 0) {
            throw new ArithmeticException("no bound was told");
        }
        return (float) plan.countHolding() / (float) told;
    }

    public double meanSlack() throws IllegalStateException, ArithmeticException {
        Net sound = soundNet();
        int sum = 0;
        int number = 0;
        for (int event = 1; event < plan.events; event++) {
            int distance = sound.between(0, event);
            if (distance != NONE) {
                sum += distance - sound.earliest(event);
                number++;
            }
        }
        if (number == 0) {
            throw new ArithmeticException("there are no distances");
        }
        return (double) sum / (double) number;
    }

    // What calls need

    private void needEvent(int event) {
        needItem(event, plan.events);
    }

    private static void needItem(int number, int count) {
        if (number < 0 || number >= count) {
            throw new NoSuchElementException("there is none of this number");
        }
    }

    private static void needRange(boolean isRight) {
        if (!isRight) {
            throw new IllegalArgumentException("a number is out of range");
        }
    }

    private static void needState(boolean isRight) {
        if (!isRight) {
            throw new IllegalStateException("the plan does not allow it");
        }
    }

    private void needPlayable(int picks) {
        needRange(isWithin(picks, 0, bit(plan.spans.count) - 1));
        needState(!plan.clock.hasStartedAny());
        needState(knownReductions().endedWell);
    }

    private void needConflict() {
        needState(!knownNet().isSound);
        if (!conflictKnown) {
            judge.findConflict();
            conflictKnown = true;
        }
    }

    private int neededPeak() {
        int minute = plan.activities.firstPeak(soundNet());
        if (minute == NOT_ANY) {
            throw new NoSuchElementException("there is no peak");
        }
        return minute;
    }

    private static int toldValue(int value) {
        if (value == NONE) {
            throw new UnsupportedOperationException("there is none");
        }
        return value;
    }

    // What is found from the plan

    private void forget() {
        netKnown = false;
        reductionsKnown = false;
        conflictKnown = false;
    }

    private Net knownNet() {
        if (!netKnown) {
            judge.leaveHeld();
            judge.layLeft(net);
            net.close();
            netKnown = true;
        }
        return net;
    }

    private Net soundNet() {
        needState(knownNet().isSound);
        return net;
    }

    private Reductions knownReductions() {
        if (!reductionsKnown) {
            reductions.run(knownNet());
            reductionsKnown = true;
        }
        return reductions;
    }

    private Reductions goodReductions() {
        needState(knownReductions().endedWell);
        return reductions;
    }

    /** Tells the bound of the best order at the first peak; false if there is none to tell. */
    private boolean tellBestOrder() {
        if (plan.bounds.count >= MOST_BOUNDS) {
            return false;
        }
        Activities activities = plan.activities;
        int order = activities.bestOrder(knownNet());
        if (order == NOT_ANY) {
            return false;
        }
        int one = order / MOST_ACTIVITIES;
        int other = order % MOST_ACTIVITIES;
        plan.bounds.add(activities.firstOf(other), activities.endOf(one), 0, 0);
        forget();
        return true;
    }

    private Plan frameAt(int index) {
        return index >= 0 && index < frames.length ? frames[index] : null;
    }

    private static boolean isWithin(int number, int least, int greatest) {
        return number >= least && number <= greatest;
    }

    private static int bit(int index) {
        return 1 << index;
    }

    private static boolean isEventNumber(int event) {
        return event >= 0 && event < MOST_EVENTS;
    }

    /** All that a frame keeps. */
    private static final class Plan {
        int events = 1;
        final Bounds bounds = new Bounds();
        final Spans spans = new Spans();
        final Clock clock = new Clock();
        final Activities activities = new Activities();
        final Costs costs = new Costs();
        final char[] labels = new char[MOST_LABELS + 1];
        /** How many events the last play without failing started; 0 if there was none. */
        int playedEvents = 0;
        final Clock played = new Clock();

        Plan() {
            for (int label = 0; label <= MOST_LABELS; label++) {
                labels[label] = OPEN;
            }
        }

        void copyFrom(Plan other) {
            events = other.events;
            bounds.copyFrom(other.bounds);
            spans.copyFrom(other.spans);
            clock.copyFrom(other.clock);
            activities.copyFrom(other.activities);
            costs.copyFrom(other.costs);
            System.arraycopy(other.labels, 0, labels, 0, MOST_LABELS + 1);
            playedEvents = other.playedEvents;
            played.copyFrom(other.played);
        }

        char letterOf(int label) {
            return isWithin(label, 1, MOST_LABELS) ? labels[label] : OPEN;
        }

        void setLabel(int label, char letter) {
            if (isWithin(label, 1, MOST_LABELS)) {
                labels[label] = letter;
            }
        }

        boolean isObserved(int label) {
            char letter = letterOf(label);
            return letter == SEEN_TRUE || letter == SEEN_FALSE;
        }

        int trueLabels() {
            return labelsWith(SEEN_TRUE, CHOSEN_TRUE);
        }

        int falseLabels() {
            return labelsWith(SEEN_FALSE, CHOSEN_FALSE);
        }

        int labelsWith(char letter, char orLetter) {
            int sum = 0;
            for (int label = 1; label <= MOST_LABELS; label++) {
                if (labels[label] == letter || labels[label] == orLetter) {
                    sum |= bit(label - 1);
                }
            }
            return sum;
        }

        int countHolding() {
            int trues = trueLabels();
            int falses = falseLabels();
            int number = 0;
            for (int bound = 0; bound < bounds.count; bound++) {
                if (bounds.holds(bound, trues, falses)) {
                    number++;
                }
            }
            return number;
        }

        void keepPlayed(Clock from) {
            played.copyFrom(from);
            playedEvents = events;
        }

        int playedStart(int event) {
            return played.startOf(event);
        }
    }

    /** The bounds that were told, dropped ones included. */
    private static final class Bounds {
        int count = 0;
        final int[] from = new int[MOST_BOUNDS];
        final int[] to = new int[MOST_BOUNDS];
        final int[] most = new int[MOST_BOUNDS];
        final int[] label = new int[MOST_BOUNDS];
        final boolean[] dropped = new boolean[MOST_BOUNDS];

        int add(int first, int second, int minutes, int ofLabel) {
            if (count >= MOST_BOUNDS) {
                return NOT_ANY;
            }
            int number = count;
            from[number] = first;
            to[number] = second;
            most[number] = minutes;
            label[number] = ofLabel;
            dropped[number] = false;
            count = number + 1;
            return number;
        }

        boolean isNumber(int bound) {
            return bound >= 0 && bound < MOST_BOUNDS;
        }

        boolean isDropped(int bound) {
            return isNumber(bound) && dropped[bound];
        }

        void drop(int bound) {
            if (isNumber(bound)) {
                dropped[bound] = true;
            }
        }

        boolean holds(int bound, int trues, int falses) {
            if (!isNumber(bound) || dropped[bound]) {
                return false;
            }
            int of = label[bound];
            if (of == 0) {
                return true;
            }
            return of > 0 ? (trues & bit(of - 1)) != 0 : (falses & bit(-of - 1)) != 0;
        }

        boolean areMinutesRight(int bound, Clock clock) {
            return isNumber(bound)
                && clock.startOf(to[bound]) - clock.startOf(from[bound]) <= most[bound];
        }

        void copyFrom(Bounds other) {
            count = other.count;
            System.arraycopy(other.from, 0, from, 0, MOST_BOUNDS);
            System.arraycopy(other.to, 0, to, 0, MOST_BOUNDS);
            System.arraycopy(other.most, 0, most, 0, MOST_BOUNDS);
            System.arraycopy(other.label, 0, label, 0, MOST_BOUNDS);
            System.arraycopy(other.dropped, 0, dropped, 0, MOST_BOUNDS);
        }
    }

    /** The spans, and what nature may do with them. */
    private static final class Spans {
        int count = 0;
        final int[] from = new int[MOST_SPANS];
        final int[] to = new int[MOST_SPANS];
        final int[] least = new int[MOST_SPANS];
        final int[] greatest = new int[MOST_SPANS];

        int add(int first, int second, int leastLength, int greatestLength) {
            if (count >= MOST_SPANS) {
                return NOT_ANY;
            }
            int number = count;
            from[number] = first;
            to[number] = second;
            least[number] = leastLength;
            greatest[number] = greatestLength;
            count = number + 1;
            return number;
        }

        int firstOf(int span) {
            return span >= 0 && span < MOST_SPANS ? from[span] : 0;
        }

        int endOf(int span) {
            return span >= 0 && span < MOST_SPANS ? to[span] : 0;
        }

        int leastOf(int span) {
            return span >= 0 && span < MOST_SPANS ? least[span] : 0;
        }

        int greatestOf(int span) {
            return span >= 0 && span < MOST_SPANS ? greatest[span] : 0;
        }

        /** The length that nature picks, by a sum of picks. */
        int pickedOf(int span, int picks) {
            return (picks & bit(span)) != 0 ? greatestOf(span) : leastOf(span);
        }

        /** The number of the span whose end an event is. */
        int withEnd(int event) {
            for (int span = 0; span < count; span++) {
                if (endOf(span) == event) {
                    return span;
                }
            }
            return NOT_ANY;
        }

        boolean hasEnded(int span, Clock clock) {
            return clock.hasStarted(endOf(span));
        }

        boolean isRunning(int span, Clock clock) {
            return clock.hasStarted(firstOf(span)) && !hasEnded(span, clock);
        }

        int minutesGone(int span, Clock clock) {
            return clock.minute - clock.startOf(firstOf(span));
        }

        boolean canLast(int span, int length) {
            return isWithin(length, leastOf(span), greatestOf(span));
        }

        boolean wouldOverrun(int minutes, Clock clock) {
            for (int span = 0; span < count; span++) {
                if (isRunning(span, clock) && minutesGone(span, clock) + minutes > greatestOf(span)) {
                    return true;
                }
            }
            return false;
        }

        void copyFrom(Spans other) {
            count = other.count;
            System.arraycopy(other.from, 0, from, 0, MOST_SPANS);
            System.arraycopy(other.to, 0, to, 0, MOST_SPANS);
            System.arraycopy(other.least, 0, least, 0, MOST_SPANS);
            System.arraycopy(other.greatest, 0, greatest, 0, MOST_SPANS);
        }
    }

    /** The minute, and the minutes at which events have started. */
    private static final class Clock {
        int minute = 0;
        final int[] starts = new int[MOST_EVENTS];

        Clock() {
            rewind();
        }

        void rewind() {
            minute = 0;
            for (int event = 0; event < MOST_EVENTS; event++) {
                starts[event] = NOT_ANY;
            }
            starts[0] = 0;
        }

        int startOf(int event) {
            return event >= 0 && event < MOST_EVENTS ? starts[event] : NOT_ANY;
        }

        boolean hasStarted(int event) {
            return event >= 0 && event < MOST_EVENTS && starts[event] != NOT_ANY;
        }

        /** Whether an event other than the event 0 has started. */
        boolean hasStartedAny() {
            for (int event = 1; event < MOST_EVENTS; event++) {
                if (hasStarted(event)) {
                    return true;
                }
            }
            return false;
        }

        void begin(int event) {
            if (isEventNumber(event)) {
                starts[event] = minute;
            }
        }

        void copyFrom(Clock other) {
            minute = other.minute;
            System.arraycopy(other.starts, 0, starts, 0, MOST_EVENTS);
        }
    }

    /** The activities and the capacity of the resource that they share. */
    private static final class Activities {
        int count = 0;
        int capacity = FIRST_CAPACITY;
        final int[] from = new int[MOST_ACTIVITIES];
        final int[] to = new int[MOST_ACTIVITIES];
        final int[] demand = new int[MOST_ACTIVITIES];

        int add(int first, int second, int ofDemand) {
            if (count >= MOST_ACTIVITIES) {
                return NOT_ANY;
            }
            int number = count;
            from[number] = first;
            to[number] = second;
            demand[number] = ofDemand;
            count = number + 1;
            return number;
        }

        int firstOf(int activity) {
            return activity >= 0 && activity < MOST_ACTIVITIES ? from[activity] : 0;
        }

        int endOf(int activity) {
            return activity >= 0 && activity < MOST_ACTIVITIES ? to[activity] : 0;
        }

        int demandOf(int activity) {
            return activity >= 0 && activity < MOST_ACTIVITIES ? demand[activity] : 0;
        }

        boolean isOn(int activity, int minute, Net net) {
            return net.earliest(firstOf(activity)) <= minute && minute < net.earliest(endOf(activity));
        }

        int demandAt(int minute, Net net) {
            int sum = 0;
            for (int activity = 0; activity < count; activity++) {
                if (isOn(activity, minute, net)) {
                    sum += demandOf(activity);
                }
            }
            return sum;
        }

        int setAt(int minute, Net net) {
            int set = 0;
            for (int activity = 0; activity < count; activity++) {
                if (isOn(activity, minute, net)) {
                    set |= bit(activity);
                }
            }
            return set;
        }

        /** The first minute of too much use; the use grows only where an activity begins. */
        int firstPeak(Net net) {
            int best = NOT_ANY;
            for (int activity = 0; activity < count; activity++) {
                int minute = net.earliest(firstOf(activity));
                boolean isAhead = best == NOT_ANY || minute < best;
                if (isAhead && demandAt(minute, net) > capacity) {
                    best = minute;
                }
            }
            return best;
        }

        /** The slack of an order. */
        int room(int one, int other, Net net) {
            int distance = net.between(endOf(one), firstOf(other));
            return distance == NONE ? UNTOLD : distance;
        }

        /**
         * The order to tell for the first peak, as first * MOST_ACTIVITIES + second, or NOT_ANY. Its
         * bound closes only ways whose least sum is the slack, so at 0 or more the net stays consistent.
         */
        int bestOrder(Net net) {
            int minute = firstPeak(net);
            if (minute == NOT_ANY) {
                return NOT_ANY;
            }
            int set = setAt(minute, net);
            int best = NOT_ANY;
            int bestRoom = NOT_ANY;
            for (int one = 0; one < count; one++) {
                for (int other = 0; other < count; other++) {
                    if (one == other || (set & bit(one)) == 0 || (set & bit(other)) == 0) {
                        continue;
                    }
                    int room = room(one, other, net);
                    if (room >= 0 && room > bestRoom) {
                        bestRoom = room;
                        best = one * MOST_ACTIVITIES + other;
                    }
                }
            }
            return best;
        }

        void copyFrom(Activities other) {
            count = other.count;
            capacity = other.capacity;
            System.arraycopy(other.from, 0, from, 0, MOST_ACTIVITIES);
            System.arraycopy(other.to, 0, to, 0, MOST_ACTIVITIES);
            System.arraycopy(other.demand, 0, demand, 0, MOST_ACTIVITIES);
        }
    }

    /** What events cost. */
    private static final class Costs {
        final int[] due = new int[MOST_EVENTS];
        final int[] early = new int[MOST_EVENTS];
        final int[] late = new int[MOST_EVENTS];

        Costs() {
            for (int event = 0; event < MOST_EVENTS; event++) {
                due[event] = NOT_ANY;
            }
        }

        /** Sets the costs of an event, and returns its due minute before. */
        int put(int event, int dueMinute, int earlyRate, int lateRate) {
            if (!isEventNumber(event)) {
                return NOT_ANY;
            }
            int before = due[event];
            due[event] = dueMinute;
            early[event] = earlyRate;
            late[event] = lateRate;
            return before;
        }

        int at(int event, int minute) {
            if (!isEventNumber(event) || due[event] == NOT_ANY) {
                return 0;
            }
            int behind = minute - due[event];
            return behind < 0 ? -behind * early[event] : behind * late[event];
        }

        void copyFrom(Costs other) {
            System.arraycopy(other.due, 0, due, 0, MOST_EVENTS);
            System.arraycopy(other.early, 0, early, 0, MOST_EVENTS);
            System.arraycopy(other.late, 0, late, 0, MOST_EVENTS);
        }
    }

    /** Edges with weights between events, and their distances; a pair stands at from * MOST_EVENTS + to. */
    private static final class Net {
        int size = 0;
        boolean isSound = true;
        final int[] weights = new int[CELLS];
        final int[] distances = new int[CELLS];
        final int[] reach = new int[MOST_EVENTS];

        void clear(int events) {
            size = Math.max(0, Math.min(events, MOST_EVENTS));
            for (int cell = 0; cell < CELLS; cell++) {
                weights[cell] = NONE;
            }
            for (int event = 0; event < size; event++) {
                weights[event * MOST_EVENTS + event] = 0;
            }
        }

        void addEdge(int from, int to, int weight) {
            boolean isPair = from >= 0 && from < MOST_EVENTS && to >= 0 && to < MOST_EVENTS;
            if (isPair && weight < weights[from * MOST_EVENTS + to]) {
                weights[from * MOST_EVENTS + to] = weight;
            }
        }

        /** The second event comes from so many to so many minutes behind the first one. */
        void addGap(int from, int to, int least, int greatest) {
            addEdge(from, to, greatest);
            addEdge(to, from, -least);
        }

        /** Finds all distances; it stops at a way back of less than 0, before sums can grow too far. */
        void close() {
            System.arraycopy(weights, 0, distances, 0, CELLS);
            isSound = !hasLoopBelowZero();
            for (int middle = 0; middle < size && isSound; middle++) {
                shortenOver(middle);
                isSound = !hasLoopBelowZero();
            }
        }

        boolean hasLoopBelowZero() {
            for (int event = 0; event < size; event++) {
                if (distances[event * MOST_EVENTS + event] < 0) {
                    return true;
                }
            }
            return false;
        }

        void shortenOver(int middle) {
            if (middle < 0 || middle >= size) {
                return;
            }
            for (int from = 0; from < size; from++) {
                int first = distances[from * MOST_EVENTS + middle];
                for (int to = 0; first != NONE && to < size; to++) {
                    int second = distances[middle * MOST_EVENTS + to];
                    if (second != NONE && first + second < distances[from * MOST_EVENTS + to]) {
                        distances[from * MOST_EVENTS + to] = first + second;
                    }
                }
            }
        }

        /** The distance, or NONE. */
        int between(int from, int to) {
            boolean isPair = from >= 0 && from < MOST_EVENTS && to >= 0 && to < MOST_EVENTS;
            return isPair ? distances[from * MOST_EVENTS + to] : NONE;
        }

        /** The same distance, found by rounds over all edges. */
        int byRounds(int from, int to) {
            if (!isEventNumber(from) || !isEventNumber(to)) {
                return NONE;
            }
            for (int event = 0; event < MOST_EVENTS; event++) {
                reach[event] = NONE;
            }
            reach[from] = 0;
            boolean moved = true;
            for (int round = 0; round < size && moved; round++) {
                moved = goRound();
            }
            return reach[to];
        }

        boolean goRound() {
            boolean moved = false;
            for (int from = 0; from < size; from++) {
                for (int to = 0; to < size; to++) {
                    int weight = weights[from * MOST_EVENTS + to];
                    if (weight != NONE && reach[from] != NONE && reach[from] + weight < reach[to]) {
                        reach[to] = reach[from] + weight;
                        moved = true;
                    }
                }
            }
            return moved;
        }

        /** Whether there is a distance that no third event makes up. */
        boolean isReachedAtOnce(int from, int to) {
            int whole = between(from, to);
            if (whole == NONE) {
                return false;
            }
            for (int third = 0; third < size; third++) {
                int first = between(from, third);
                int second = between(third, to);
                boolean isThird = third != from && third != to;
                if (isThird && first != NONE && second != NONE && first + second == whole) {
                    return false;
                }
            }
            return true;
        }

        /** The first time of an event. */
        int earliest(int event) {
            int back = between(event, 0);
            return back == NONE ? 0 : Math.max(0, -back);
        }
    }

    /** Judges the plan under other labels, without some bounds, and at the corners of what nature picks. */
    private static final class Judge {
        final Plan plan;
        final Net trial = new Net();
        /** The bounds that are looked at. */
        final boolean[] left = new boolean[MOST_BOUNDS];
        int conflictCount = 0;
        final int[] conflict = new int[MOST_BOUNDS];
        /** With lengths picked, an event comes so many minutes behind its root. */
        final int[] roots = new int[MOST_EVENTS];
        final int[] behinds = new int[MOST_EVENTS];

        Judge(Plan plan) {
            this.plan = plan;
        }

        /** Leaves the bounds that hold now. */
        void leaveHeld() {
            leaveHolding(plan.trueLabels(), plan.falseLabels());
        }

        void leaveHolding(int trues, int falses) {
            for (int bound = 0; bound < MOST_BOUNDS; bound++) {
                left[bound] = bound < plan.bounds.count && plan.bounds.holds(bound, trues, falses);
            }
        }

        void layLeft(Net net) {
            net.clear(plan.events);
            layBounds(net);
            Spans spans = plan.spans;
            for (int span = 0; span < spans.count; span++) {
                net.addGap(spans.firstOf(span), spans.endOf(span), spans.leastOf(span), spans.greatestOf(span));
            }
            layStarts(net);
        }

        void layBounds(Net net) {
            Bounds bounds = plan.bounds;
            for (int bound = 0; bound < MOST_BOUNDS; bound++) {
                if (left[bound]) {
                    net.addEdge(bounds.from[bound], bounds.to[bound], bounds.most[bound]);
                }
            }
        }

        void layStarts(Net net) {
            for (int event = 1; event < plan.events; event++) {
                if (plan.clock.hasStarted(event)) {
                    int minute = plan.clock.startOf(event);
                    net.addGap(0, event, minute, minute);
                }
            }
        }

        boolean isSoundLeft() {
            layLeft(trial);
            trial.close();
            return trial.isSound;
        }

        boolean isSoundWith(int trues, int falses) {
            leaveHolding(trues, falses);
            return isSoundLeft();
        }

        /** The true labels of the first way to choose for which the net is consistent, or NOT_ANY. */
        int firstSoundWay() {
            int observed = observedLabels();
            int seenTrue = plan.trueLabels() & observed;
            for (int way = 0; way <= ALL_LABELS; way++) {
                int trues = (truesOfWay(way) & ~observed) | seenTrue;
                if (isSoundWith(trues, ALL_LABELS & ~trues)) {
                    return trues;
                }
            }
            return NOT_ANY;
        }

        int observedLabels() {
            return plan.labelsWith(SEEN_TRUE, SEEN_FALSE);
        }

        /** Ways by rising numbers have the label 1 true as long as they can, then the label 2, and so on. */
        static int truesOfWay(int way) {
            int trues = 0;
            for (int index = 0; index < MOST_LABELS; index++) {
                if ((way & bit(MOST_LABELS - 1 - index)) == 0) {
                    trues |= bit(index);
                }
            }
            return trues;
        }

        /** Leaves each bound out for good without which the net is not consistent either. */
        void findConflict() {
            leaveHeld();
            conflictCount = 0;
            for (int bound = 0; bound < MOST_BOUNDS; bound++) {
                if (!left[bound]) {
                    continue;
                }
                left[bound] = false;
                left[bound] = isSoundLeft();
                if (left[bound] && conflictCount < MOST_BOUNDS) {
                    conflict[conflictCount] = bound;
                    conflictCount++;
                }
            }
        }

        int conflictBound(int index) {
            return index >= 0 && index < MOST_BOUNDS ? conflict[index] : NOT_ANY;
        }

        /** Whether the net is consistent for each way to pick least and greatest lengths. */
        boolean isSoundAtCorners() {
            leaveHeld();
            for (int picks = 0; picks < bit(plan.spans.count); picks++) {
                layLeft(trial);
                layPicked(picks);
                trial.close();
                if (!trial.isSound) {
                    return false;
                }
            }
            return true;
        }

        void layPicked(int picks) {
            Spans spans = plan.spans;
            for (int span = 0; span < spans.count; span++) {
                if (!spans.hasEnded(span, plan.clock)) {
                    int length = spans.pickedOf(span, picks);
                    trial.addGap(spans.firstOf(span), spans.endOf(span), length, length);
                }
            }
        }

        /** Whether the events that nature does not end can have fixed times that are right at all corners. */
        boolean hasFixedTimes() {
            leaveHeld();
            trial.clear(plan.events);
            layStarts(trial);
            for (int picks = 0; picks < bit(plan.spans.count); picks++) {
                findRoots(picks);
                layBoundsOfRoots();
            }
            trial.close();
            return trial.isSound;
        }

        /** Rising numbers do: a span's end has a greater number than its first event. */
        void findRoots(int picks) {
            Spans spans = plan.spans;
            for (int event = 0; event < MOST_EVENTS; event++) {
                roots[event] = event;
                behinds[event] = 0;
                int span = spans.withEnd(event);
                int first = spans.firstOf(span);
                if (span != NOT_ANY && !spans.hasEnded(span, plan.clock) && isEventNumber(first)) {
                    roots[event] = roots[first];
                    behinds[event] = behinds[first] + spans.pickedOf(span, picks);
                }
            }
        }

        void layBoundsOfRoots() {
            Bounds bounds = plan.bounds;
            for (int bound = 0; bound < MOST_BOUNDS; bound++) {
                int from = bounds.from[bound];
                int to = bounds.to[bound];
                if (left[bound] && isEventNumber(from) && isEventNumber(to)) {
                    trial.addEdge(roots[from], roots[to], bounds.most[bound] - behinds[to] + behinds[from]);
                }
            }
        }
    }

    /** The reductions of a net: values, upper edges, and the waits, windows and reasons that follow. */
    private static final class Reductions {
        final Plan plan;
        boolean endedWell = false;
        int changedRounds = 0;
        /** Whether the round has changed something. */
        boolean moved = false;
        final int[] values = new int[CELLS];
        final int[] nextValues = new int[CELLS];
        /** The upper edge of a span from an event; all of them lead to the span's first event. */
        final int[] uppers = new int[MOST_SPANS * MOST_EVENTS];
        final int[] nextUppers = new int[MOST_SPANS * MOST_EVENTS];
        final Net both = new Net();

        Reductions(Plan plan) {
            this.plan = plan;
        }

        void run(Net net) {
            endedWell = false;
            changedRounds = 0;
            if (!net.isSound) {
                return;
            }
            takeUp(net);
            for (int round = 0; round < MOST_ROUNDS; round++) {
                goRound();
                if (moved) {
                    changedRounds++;
                }
                if (hasWayBelowZero()) {
                    return;
                }
                if (!moved) {
                    endedWell = true;
                    return;
                }
            }
        }

        void takeUp(Net net) {
            System.arraycopy(net.distances, 0, values, 0, CELLS);
            for (int place = 0; place < MOST_SPANS * MOST_EVENTS; place++) {
                uppers[place] = NONE;
            }
            for (int span = 0; span < plan.spans.count && span < MOST_SPANS; span++) {
                int end = plan.spans.endOf(span);
                if (isOpen(span) && isEventNumber(end)) {
                    uppers[span * MOST_EVENTS + end] = -plan.spans.greatestOf(span);
                }
            }
        }

        boolean isOpen(int span) {
            return !plan.spans.hasEnded(span, plan.clock);
        }

        int valueOf(int from, int to) {
            boolean isPair = from >= 0 && from < MOST_EVENTS && to >= 0 && to < MOST_EVENTS;
            return isPair ? values[from * MOST_EVENTS + to] : NONE;
        }

        int upperOf(int span, int from) {
            boolean isPair = span >= 0 && span < MOST_SPANS && from >= 0 && from < MOST_EVENTS;
            return isPair ? uppers[span * MOST_EVENTS + from] : NONE;
        }

        /** Finds new values from the old ones alone; what is new counts from the next round on. */
        void goRound() {
            System.arraycopy(values, 0, nextValues, 0, CELLS);
            System.arraycopy(uppers, 0, nextUppers, 0, MOST_SPANS * MOST_EVENTS);
            moved = false;
            addValues();
            for (int span = 0; span < plan.spans.count; span++) {
                if (isOpen(span)) {
                    addToUppers(span);
                    reduceLower(span);
                    reduceAcross(span);
                    freeUppers(span);
                }
            }
            System.arraycopy(nextValues, 0, values, 0, CELLS);
            System.arraycopy(nextUppers, 0, uppers, 0, MOST_SPANS * MOST_EVENTS);
        }

        void findValue(int from, int to, int value) {
            boolean isPair = from >= 0 && from < MOST_EVENTS && to >= 0 && to < MOST_EVENTS;
            if (isPair && value < nextValues[from * MOST_EVENTS + to]) {
                nextValues[from * MOST_EVENTS + to] = value;
                moved = true;
            }
        }

        void findUpper(int span, int from, int value) {
            boolean isPair = span >= 0 && span < MOST_SPANS && from >= 0 && from < MOST_EVENTS;
            if (isPair && value < nextUppers[span * MOST_EVENTS + from]) {
                nextUppers[span * MOST_EVENTS + from] = value;
                moved = true;
            }
        }

        void addValues() {
            int size = Math.min(plan.events, MOST_EVENTS);
            for (int from = 0; from < size; from++) {
                for (int middle = 0; middle < size; middle++) {
                    int first = values[from * MOST_EVENTS + middle];
                    for (int to = 0; first != NONE && to < size; to++) {
                        int second = values[middle * MOST_EVENTS + to];
                        if (second != NONE) {
                            findValue(from, to, first + second);
                        }
                    }
                }
            }
        }

        void addToUppers(int span) {
            for (int middle = 0; middle < plan.events; middle++) {
                int upper = upperOf(span, middle);
                for (int from = 0; upper != NONE && from < plan.events; from++) {
                    int value = valueOf(from, middle);
                    if (value != NONE) {
                        findUpper(span, from, value + upper);
                    }
                }
            }
        }

        void reduceLower(int span) {
            int end = plan.spans.endOf(span);
            for (int event = 0; event < plan.events; event++) {
                int value = valueOf(end, event);
                if (event != end && value <= 0) {
                    findValue(plan.spans.firstOf(span), event, plan.spans.leastOf(span) + value);
                }
            }
        }

        void reduceAcross(int span) {
            for (int other = 0; other < plan.spans.count; other++) {
                int upper = upperOf(other, plan.spans.endOf(span));
                if (other != span && upper <= 0) {
                    findUpper(other, plan.spans.firstOf(span), plan.spans.leastOf(span) + upper);
                }
            }
        }

        /** An upper edge that even the least length keeps is a value. */
        void freeUppers(int span) {
            for (int from = 0; from < plan.events; from++) {
                int upper = upperOf(span, from);
                if (upper != NONE && upper >= -plan.spans.leastOf(span)) {
                    findValue(from, plan.spans.firstOf(span), upper);
                }
            }
        }

        /** Whether a way of values and upper edges leads back to its event with a sum less than 0. */
        boolean hasWayBelowZero() {
            both.clear(plan.events);
            for (int from = 0; from < plan.events; from++) {
                for (int to = 0; to < plan.events; to++) {
                    both.addEdge(from, to, valueOf(from, to));
                }
                for (int span = 0; span < plan.spans.count; span++) {
                    both.addEdge(from, plan.spans.firstOf(span), upperOf(span, from));
                }
            }
            both.close();
            return !both.isSound;
        }

        /** The wait of an event for a span, or 0 if there is none. */
        int waitOf(int event, int span) {
            return Math.max(0, -upperOf(span, event));
        }

        int windowLow(int event, Clock clock) {
            int low = 0;
            for (int other = 0; other < plan.events; other++) {
                int value = valueOf(event, other);
                if (clock.hasStarted(other) && value != NONE) {
                    low = Math.max(low, clock.startOf(other) - value);
                }
            }
            return low;
        }

        int windowHigh(int event, Clock clock) {
            int high = UNTOLD;
            for (int other = 0; other < plan.events; other++) {
                int value = valueOf(other, event);
                if (clock.hasStarted(other) && value != NONE) {
                    high = Math.min(high, clock.startOf(other) + value);
                }
            }
            return high;
        }

        char reasonAgainst(int event, Clock clock) {
            if (clock.hasStarted(event)) {
                return 's';
            }
            if (plan.spans.withEnd(event) != NOT_ANY) {
                return 'n';
            }
            if (isBehindAnother(event, clock)) {
                return 'b';
            }
            if (mustWait(event, clock)) {
                return 'w';
            }
            if (clock.minute < windowLow(event, clock)) {
                return 'e';
            }
            return clock.minute > windowHigh(event, clock) ? 'l' : NO_REASON;
        }

        boolean isBehindAnother(int event, Clock clock) {
            for (int other = 0; other < plan.events; other++) {
                if (!clock.hasStarted(other) && valueOf(event, other) < 0) {
                    return true;
                }
            }
            return false;
        }

        boolean mustWait(int event, Clock clock) {
            Spans spans = plan.spans;
            for (int span = 0; span < spans.count; span++) {
                int wait = waitOf(event, span);
                boolean isOver = clock.hasStarted(spans.firstOf(span)) && spans.minutesGone(span, clock) >= wait;
                if (wait > 0 && !spans.hasEnded(span, clock) && !isOver) {
                    return true;
                }
            }
            return false;
        }
    }

    /** Plays the plan out by the reductions, from the minute 0 on. */
    private static final class Player {
        final Plan plan;
        final Reductions reductions;
        final Clock clock = new Clock();

        Player(Plan plan, Reductions reductions) {
            this.plan = plan;
            this.reductions = reductions;
        }

        char failureOf(int picks) {
            clock.rewind();
            for (int step = 0; step <= LAST_MINUTE && clock.minute <= LAST_MINUTE; step++) {
                startEnds(picks);
                startReady();
                if (haveAllStarted()) {
                    return areBoundsRight() ? NO_REASON : 'b';
                }
                clock.minute = nextMinute(picks);
            }
            return 'm';
        }

        boolean haveAllStarted() {
            for (int event = 0; event < plan.events; event++) {
                if (!clock.hasStarted(event)) {
                    return false;
                }
            }
            return true;
        }

        boolean areBoundsRight() {
            int trues = plan.trueLabels();
            int falses = plan.falseLabels();
            for (int bound = 0; bound < plan.bounds.count; bound++) {
                if (plan.bounds.holds(bound, trues, falses) && !plan.bounds.areMinutesRight(bound, clock)) {
                    return false;
                }
            }
            return true;
        }

        void startEnds(int picks) {
            for (int span = 0; span < plan.spans.count; span++) {
                boolean isRunning = plan.spans.isRunning(span, clock);
                if (isRunning && plan.spans.minutesGone(span, clock) == plan.spans.pickedOf(span, picks)) {
                    clock.begin(plan.spans.endOf(span));
                }
            }
        }

        /** Each start can free an event with a lower number, so the search begins anew. */
        void startReady() {
            for (int starts = 0; starts < MOST_EVENTS; starts++) {
                int event = firstReady();
                if (event == NOT_ANY) {
                    return;
                }
                clock.begin(event);
            }
        }

        int firstReady() {
            for (int event = 0; event < plan.events; event++) {
                if (reductions.reasonAgainst(event, clock) == NO_REASON) {
                    return event;
                }
            }
            return NOT_ANY;
        }

        /** The next minute at which a span ends, a window begins or a wait is over: nothing starts ahead of it. */
        int nextMinute(int picks) {
            int next = LAST_MINUTE + 1;
            for (int event = 0; event < plan.events; event++) {
                if (!clock.hasStarted(event)) {
                    next = sooner(next, reductions.windowLow(event, clock));
                    next = nextWaitOver(next, event);
                }
            }
            for (int span = 0; span < plan.spans.count; span++) {
                if (plan.spans.isRunning(span, clock)) {
                    next = sooner(next, startOfSpan(span) + plan.spans.pickedOf(span, picks));
                }
            }
            return next;
        }

        int nextWaitOver(int next, int event) {
            int soonest = next;
            for (int span = 0; span < plan.spans.count; span++) {
                if (plan.spans.isRunning(span, clock)) {
                    soonest = sooner(soonest, startOfSpan(span) + reductions.waitOf(event, span));
                }
            }
            return soonest;
        }

        int startOfSpan(int span) {
            return clock.startOf(plan.spans.firstOf(span));
        }

        /** The lesser of two minutes, but not one that has been reached. */
        int sooner(int next, int minute) {
            return minute > clock.minute ? Math.min(next, minute) : next;
        }

        int lastStart() {
            int last = 0;
            for (int event = 0; event < plan.events; event++) {
                last = Math.max(last, clock.startOf(event));
            }
            return last;
        }
    }
}
