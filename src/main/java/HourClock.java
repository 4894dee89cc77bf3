/** An hour of a radio station: what is played when, what is dropped, and what fills the gaps. */
public final class HourClock {
    public static final int NONE = -1;

    private static final int HOUR = 3600;
    private static final int MOST_ELEMENTS = 12;
    private static final int MOST_FILLERS = 10;
    private static final int MOST_SAVED = 4;
    private static final int MOST_BYTES = 100;
    private static final int LONGEST_ELEMENT = 1800;
    private static final int LONGEST_STRETCHED = 3600;
    private static final int LONGEST_STRETCH = 1800;
    private static final int LONGEST_FILLER = 900;
    private static final int HIGHEST_RANK = 9;
    private static final int RANK_WITHOUT_ONE = 5;
    private static final int LAST_VALUE = 13;
    private static final int LAST_OF_ELEMENT = 6;
    private static final int LAST_OF_FILLER = 2;
    private static final int LAST_OF_ENTRY = 2;
    private static final int NO_BACK_TIME = -10000;
    private static final int SYNTAX_ERROR = -10;
    private static final long DIGEST_START = 3559;

    // The elements and fillers log one entry each. A silence ends at the time of the fixed element
    // that waited for it, or at 3600, and none begins for the same one again: 13 of them at most.
    private static final int MOST_ENTRIES = MOST_ELEMENTS + MOST_FILLERS + MOST_ELEMENTS + 1;
    // At each turn but the last something that was logged ends; this stands far above that.
    private static final int MOST_TURNS = 1000;
    // No hour lasts so long: twelve elements of 3600 seconds, all of them late.
    private static final int NEVER = 1000000;

    private static final int WAITS = 0;
    private static final int ON_AIR = 1;
    private static final int DONE = 2;
    private static final int DROPPED = 3;

    private static final int ELEMENT = 0;
    private static final int FILLER = 1;
    private static final int SILENCE = 2;
    private static final int DROP = 3;

    private final Hour now = new Hour();
    private final Hour scratch = new Hour();
    private final Hour[] saved = new Hour[MOST_SAVED];
    private int savedCount = 0;
    private final Text text = new Text();

    public HourClock() {
        for (int s = 0; s < MOST_SAVED; s++) {
            saved[s] = new Hour();
        }
    }

    // ---- hour

    public int addElement(int length, int time, int rank) throws IllegalArgumentException, IllegalStateException {
        if (length < 1 || length > LONGEST_ELEMENT) {
            throw new IllegalArgumentException("length");
        }
        if (time != NONE && (time < 0 || time >= HOUR)) {
            throw new IllegalArgumentException("time");
        }
        if (rank < 0 || rank > HIGHEST_RANK) {
            throw new IllegalArgumentException("rank");
        }
        if (now.over || now.elements.count >= MOST_ELEMENTS) {
            throw new IllegalStateException("the hour takes no more elements");
        }
        save();
        now.elements.add(length, time, rank);
        return now.elements.count - 1;
    }

    public int addFiller(int length) throws IllegalArgumentException, IllegalStateException {
        if (length < 1 || length > LONGEST_FILLER) {
            throw new IllegalArgumentException("length");
        }
        if (now.over || now.fillers.count >= MOST_FILLERS) {
            throw new IllegalStateException("the hour takes no more fillers");
        }
        save();
        now.fillers.add(length);
        return now.fillers.count - 1;
    }

    public int stretch(int element, int by) throws IndexOutOfBoundsException, IllegalArgumentException, IllegalStateException {
        if (!now.elements.has(element)) {
            throw new IndexOutOfBoundsException("element");
        }
        if (by < -LONGEST_STRETCH || by > LONGEST_STRETCH) {
            throw new IllegalArgumentException("by");
        }
        int length = now.elements.length[element] + by;
        if (!now.canHaveLength(element, length)) {
            throw new IllegalStateException("the element cannot have this length");
        }
        save();
        now.giveLength(element, length);
        return length;
    }

    public int drop(int element) throws IndexOutOfBoundsException, IllegalStateException {
        if (!now.elements.has(element)) {
            throw new IndexOutOfBoundsException("element");
        }
        if (!now.elements.waits(element)) {
            throw new IllegalStateException("the element does not wait");
        }
        save();
        now.dropElement(element);
        return now.elements.countThatAre(WAITS);
    }

    public int pass(int seconds) throws IllegalArgumentException {
        if (seconds < 1 || seconds > HOUR) {
            throw new IllegalArgumentException("seconds");
        }
        save();
        int before = now.second;
        now.runTo(before + seconds);
        return now.second - before;
    }

    public int finish() {
        save();
        now.runTo(NEVER);
        return now.second - HOUR;
    }

    public int again() throws IllegalStateException {
        if (!now.over) {
            throw new IllegalStateException("the hour is not over");
        }
        save();
        now.beginAnew();
        now.hoursBegun++;
        return now.hoursBegun;
    }

    public int element(int element, int what) throws IndexOutOfBoundsException, IllegalArgumentException {
        if (!now.elements.has(element)) {
            throw new IndexOutOfBoundsException("element");
        }
        if (what < 0 || what > LAST_OF_ELEMENT) {
            throw new IllegalArgumentException("what");
        }
        return now.elements.tell(element, what);
    }

    public int filler(int filler, int what) throws IndexOutOfBoundsException, IllegalArgumentException {
        if (!now.fillers.has(filler)) {
            throw new IndexOutOfBoundsException("filler");
        }
        if (what < 0 || what > LAST_OF_FILLER) {
            throw new IllegalArgumentException("what");
        }
        return now.fillers.tell(filler, what);
    }

    public int value(int what) throws IllegalArgumentException {
        if (what < 0 || what > LAST_VALUE) {
            throw new IllegalArgumentException("what");
        }
        return now.tell(what);
    }

    public int entry(int entry, int what) throws IndexOutOfBoundsException, IllegalArgumentException {
        if (!now.log.has(entry)) {
            throw new IndexOutOfBoundsException("entry");
        }
        if (what < 0 || what > LAST_OF_ENTRY) {
            throw new IllegalArgumentException("what");
        }
        return now.log.tell(entry, what);
    }

    // ---- times

    public int backTime(int element) throws IndexOutOfBoundsException {
        if (!now.elements.has(element)) {
            throw new IndexOutOfBoundsException("element");
        }
        return now.elements.latestBegin(element);
    }

    public int beginOf(int element) throws IndexOutOfBoundsException {
        if (!now.elements.has(element)) {
            throw new IndexOutOfBoundsException("element");
        }
        return foresee(NONE).elements.begunAt(element);
    }

    public int endOfHour() {
        return foresee(NONE).second;
    }

    public int drops() {
        Hour then = foresee(NONE);
        int set = 0;
        for (int e = 0; e < now.elements.count; e++) {
            if (now.elements.waits(e) && then.elements.is(e, DROPPED)) {
                set |= 1 << e;
            }
        }
        return set;
    }

    public int silence() {
        return foresee(NONE).silentSeconds - now.silentSeconds;
    }

    public int choice(int gap) throws IllegalArgumentException {
        if (gap < 1 || gap > HOUR) {
            throw new IllegalArgumentException("gap");
        }
        return now.fillers.chooseFor(gap);
    }

    public int nextFull(int above) throws IllegalArgumentException {
        if (above < 0 || above > HOUR) {
            throw new IllegalArgumentException("above");
        }
        return now.fillers.leastSumAbove(above);
    }

    public int bestDrop() {
        int best = NONE;
        int mostDone = foresee(NONE).elements.countThatAre(DONE);
        for (int e = 0; e < now.elements.count; e++) {
            if (now.elements.waits(e)) {
                int done = foresee(e).elements.countThatAre(DONE);
                if (done > mostDone) {
                    best = e;
                    mostDone = done;
                }
            }
        }
        return best;
    }

    public double sounding() {
        if (now.second == 0) {
            return 1.0;
        }
        return (double) (now.second - now.silentSeconds) / (double) now.second;
    }

    // ---- text

    public int append(int value) throws IllegalArgumentException, IllegalStateException {
        if (value < 0 || value > 127) {
            throw new IllegalArgumentException("value");
        }
        if (text.length >= MOST_BYTES) {
            throw new IllegalStateException("the text is full");
        }
        text.put(value);
        return text.length;
    }

    public int clearText() {
        int before = text.length;
        text.length = 0;
        return before;
    }

    public int parse() {
        int error = text.readInto(scratch);
        if (error != NONE) {
            return SYNTAX_ERROR - error;
        }
        save();
        now.copyFrom(scratch);
        return now.elements.count;
    }

    // ---- state

    public int undo() throws IllegalStateException {
        if (savedCount <= 0) {
            throw new IllegalStateException("there is no saved state");
        }
        savedCount--;
        now.copyFrom(saved[savedCount]);
        return savedCount;
    }

    public long digest() {
        Hour then = foresee(NONE);
        long h = DIGEST_START;
        h = 31 * h + text.length;
        for (int what = 0; what <= LAST_VALUE; what++) {
            h = 31 * h + now.tell(what);
        }
        for (int e = 0; e < now.elements.count; e++) {
            for (int what = 0; what <= LAST_OF_ELEMENT; what++) {
                h = 31 * h + now.elements.tell(e, what);
            }
            h = 31 * h + now.elements.latestBegin(e);
            h = 31 * h + then.elements.begunAt(e);
        }
        for (int f = 0; f < now.fillers.count; f++) {
            for (int what = 0; what <= LAST_OF_FILLER; what++) {
                h = 31 * h + now.fillers.tell(f, what);
            }
        }
        for (int entry = 0; entry < now.log.count; entry++) {
            for (int what = 0; what <= LAST_OF_ENTRY; what++) {
                h = 31 * h + now.log.tell(entry, what);
            }
        }
        h = 31 * h + then.second;
        return 31 * h + savedCount;
    }

    private void save() {
        if (savedCount >= MOST_SAVED) {
            forgetOldest();
        }
        saved[savedCount].copyFrom(now);
        savedCount++;
    }

    private void forgetOldest() {
        // The oldest state's object goes to the end of the row, to be used again.
        Hour oldest = saved[0];
        for (int s = 1; s < MOST_SAVED; s++) {
            saved[s - 1] = saved[s];
        }
        saved[MOST_SAVED - 1] = oldest;
        savedCount = MOST_SAVED - 1;
    }

    /** A copy of the hour after its end, with one element (or NONE) dropped by hand now. */
    private Hour foresee(int dropped) {
        scratch.copyFrom(now);
        if (scratch.elements.has(dropped)) {
            scratch.dropElement(dropped);
        }
        scratch.runTo(NEVER);
        return scratch;
    }

    /** The elements of an hour, in the order in which they are to come. */
    private static final class Elements {
        private int count = 0;
        private final int[] length = new int[MOST_ELEMENTS];
        private final int[] time = new int[MOST_ELEMENTS];
        private final int[] rank = new int[MOST_ELEMENTS];
        private final int[] state = new int[MOST_ELEMENTS];
        private final int[] begun = new int[MOST_ELEMENTS];

        private void copyFrom(Elements other) {
            count = other.count;
            System.arraycopy(other.length, 0, length, 0, MOST_ELEMENTS);
            System.arraycopy(other.time, 0, time, 0, MOST_ELEMENTS);
            System.arraycopy(other.rank, 0, rank, 0, MOST_ELEMENTS);
            System.arraycopy(other.state, 0, state, 0, MOST_ELEMENTS);
            System.arraycopy(other.begun, 0, begun, 0, MOST_ELEMENTS);
        }

        private void add(int itsLength, int itsTime, int itsRank) {
            if (count >= MOST_ELEMENTS) {
                return;
            }
            length[count] = itsLength;
            time[count] = itsTime;
            rank[count] = itsRank;
            state[count] = WAITS;
            begun[count] = NONE;
            count++;
        }

        private void allWait() {
            for (int e = 0; e < count; e++) {
                state[e] = WAITS;
                begun[e] = NONE;
            }
        }

        private boolean has(int e) {
            return e >= 0 && e < count;
        }

        private boolean is(int e, int wanted) {
            return has(e) && state[e] == wanted;
        }

        private boolean waits(int e) {
            return is(e, WAITS);
        }

        private boolean isFixed(int e) {
            return has(e) && time[e] != NONE;
        }

        private int begunAt(int e) {
            return has(e) ? begun[e] : NONE;
        }

        private int lateness(int e) {
            return isFixed(e) && begun[e] != NONE ? begun[e] - time[e] : NONE;
        }

        private int countThatAre(int wanted) {
            int found = 0;
            for (int e = 0; e < count; e++) {
                if (state[e] == wanted) {
                    found++;
                }
            }
            return found;
        }

        /** The first fixed element from there on that waits, or the number of elements. */
        private int nextFixed(int from) {
            for (int e = from < 0 ? 0 : from; e < count; e++) {
                if (state[e] == WAITS && time[e] != NONE) {
                    return e;
                }
            }
            return count;
        }

        private int timeOrHourEnd(int fixed) {
            return has(fixed) ? time[fixed] : HOUR;
        }

        private int goal() {
            return timeOrHourEnd(nextFixed(0));
        }

        private boolean inSection(int e) {
            return waits(e) && e < nextFixed(0);
        }

        private int firstThatWaits() {
            for (int e = 0; e < count; e++) {
                if (state[e] == WAITS) {
                    return e;
                }
            }
            return NONE;
        }

        /** The lengths of those that wait, from one element up to, but without, another one. */
        private int waitingLength(int from, int to) {
            int sum = 0;
            for (int e = from < 0 ? 0 : from; e < to && e < count; e++) {
                if (state[e] == WAITS) {
                    sum += length[e];
                }
            }
            return sum;
        }

        private int sectionLength() {
            return waitingLength(0, nextFixed(0));
        }

        /** The element of the section that is dropped first when time is short, or NONE. */
        private int leastOfSection() {
            int least = NONE;
            int leastRank = HIGHEST_RANK - 1;
            int end = nextFixed(0);
            for (int e = 0; e < end && e < count; e++) {
                if (state[e] == WAITS && rank[e] <= leastRank) {
                    least = e;
                    leastRank = rank[e];
                }
            }
            return least;
        }

        private int latestBegin(int e) {
            if (!waits(e)) {
                return NO_BACK_TIME;
            }
            int fixed = nextFixed(e + 1);
            return timeOrHourEnd(fixed) - waitingLength(e, fixed);
        }

        private int tell(int e, int what) {
            if (!has(e)) {
                return NONE;
            }
            switch (what) {
                case 0:
                    return length[e];
                case 1:
                    return time[e];
                case 2:
                    return rank[e];
                case 3:
                    return state[e];
                case 4:
                    return begun[e];
                case 5:
                    return lateness(e);
                default:
                    return inSection(e) ? 1 : 0;
            }
        }
    }

    /** The fillers of an hour, and the sets of them that fill gaps. */
    private static final class Fillers {
        private int count = 0;
        private final int[] length = new int[MOST_FILLERS];
        private final int[] state = new int[MOST_FILLERS];
        private final int[] begun = new int[MOST_FILLERS];
        private final SetWalk walk = new SetWalk();

        private void copyFrom(Fillers other) {
            count = other.count;
            System.arraycopy(other.length, 0, length, 0, MOST_FILLERS);
            System.arraycopy(other.state, 0, state, 0, MOST_FILLERS);
            System.arraycopy(other.begun, 0, begun, 0, MOST_FILLERS);
        }

        private void add(int itsLength) {
            if (count >= MOST_FILLERS) {
                return;
            }
            length[count] = itsLength;
            state[count] = WAITS;
            begun[count] = NONE;
            count++;
        }

        private void allWait() {
            for (int f = 0; f < count; f++) {
                state[f] = WAITS;
                begun[f] = NONE;
            }
        }

        private boolean has(int f) {
            return f >= 0 && f < count;
        }

        private int countThatWait() {
            int found = 0;
            for (int f = 0; f < count; f++) {
                if (state[f] == WAITS) {
                    found++;
                }
            }
            return found;
        }

        /** The set that fills the gap best: bit f for the filler f, 0 if none fits. */
        private int chooseFor(int gap) {
            int best = 0;
            int bestSum = 0;
            int bestSize = 0;
            int sets = walk.begin(this);
            for (int step = 1; step < sets; step++) {
                walk.go(step);
                boolean better = walk.sum > bestSum
                    || (walk.sum == bestSum && walk.size < bestSize)
                    || (walk.sum == bestSum && walk.size == bestSize && walk.set < best);
                if (walk.sum <= gap && better) {
                    best = walk.set;
                    bestSum = walk.sum;
                    bestSize = walk.size;
                }
            }
            return best;
        }

        private int leastSumAbove(int above) {
            int least = NONE;
            int sets = walk.begin(this);
            for (int step = 1; step < sets; step++) {
                walk.go(step);
                if (walk.sum > above && (least == NONE || walk.sum < least)) {
                    least = walk.sum;
                }
            }
            return least;
        }

        private int tell(int f, int what) {
            if (!has(f)) {
                return NONE;
            }
            switch (what) {
                case 0:
                    return length[f];
                case 1:
                    return state[f];
                default:
                    return begun[f];
            }
        }
    }

    /** Goes through all sets of the fillers that wait, but the empty one. */
    private static final class SetWalk {
        private final int[] filler = new int[MOST_FILLERS];
        private final int[] length = new int[MOST_FILLERS];
        private int count = 0;
        private int set = 0;
        private int sum = 0;
        private int size = 0;

        /** Stands at the empty set, step 0, and returns the number of sets, which has a step each. */
        private int begin(Fillers fillers) {
            count = 0;
            set = 0;
            sum = 0;
            size = 0;
            for (int f = 0; f < fillers.count && count < MOST_FILLERS; f++) {
                if (fillers.state[f] == WAITS) {
                    filler[count] = f;
                    length[count] = fillers.length[f];
                    count++;
                }
            }
            return 1 << count;
        }

        /** Goes on to the set of the next step. */
        private void go(int step) {
            // In the order of the Gray code one filler comes or goes at each step, so that the sum
            // need not be made anew for each set.
            int i = Integer.numberOfTrailingZeros(step);
            if (i >= count) {
                return;
            }
            int bit = 1 << filler[i];
            set ^= bit;
            boolean came = (set & bit) != 0;
            sum += came ? length[i] : -length[i];
            size += came ? 1 : -1;
        }
    }

    /** What has begun and what was dropped, in the order in which it did. */
    private static final class Log {
        private int count = 0;
        private final int[] second = new int[MOST_ENTRIES];
        private final int[] kind = new int[MOST_ENTRIES];
        private final int[] number = new int[MOST_ENTRIES];

        private void copyFrom(Log other) {
            count = other.count;
            System.arraycopy(other.second, 0, second, 0, MOST_ENTRIES);
            System.arraycopy(other.kind, 0, kind, 0, MOST_ENTRIES);
            System.arraycopy(other.number, 0, number, 0, MOST_ENTRIES);
        }

        private void add(int itsSecond, int itsKind, int itsNumber) {
            if (count >= MOST_ENTRIES) {
                return;
            }
            second[count] = itsSecond;
            kind[count] = itsKind;
            number[count] = itsNumber;
            count++;
        }

        private boolean has(int e) {
            return e >= 0 && e < count;
        }

        private int tell(int e, int what) {
            if (!has(e)) {
                return NONE;
            }
            switch (what) {
                case 0:
                    return second[e];
                case 1:
                    return kind[e];
                default:
                    return number[e];
            }
        }
    }

    /** All that undo brings back: the elements and fillers, the time, what is on the air, the log. */
    private static final class Hour {
        private final Elements elements = new Elements();
        private final Fillers fillers = new Fillers();
        private final Log log = new Log();
        private int second = 0;
        private boolean over = false;
        private int silentSeconds = 0;
        private int greatestLateness = 0;
        private int hoursBegun = 0;
        private int airKind = NONE;
        private int airNumber = NONE;
        private int airEnd = 0;

        private void copyFrom(Hour other) {
            elements.copyFrom(other.elements);
            fillers.copyFrom(other.fillers);
            log.copyFrom(other.log);
            second = other.second;
            over = other.over;
            silentSeconds = other.silentSeconds;
            greatestLateness = other.greatestLateness;
            hoursBegun = other.hoursBegun;
            airKind = other.airKind;
            airNumber = other.airNumber;
            airEnd = other.airEnd;
        }

        private void beginAnew() {
            elements.allWait();
            fillers.allWait();
            log.count = 0;
            second = 0;
            over = false;
            silentSeconds = 0;
            greatestLateness = 0;
            clearAir();
        }

        private void becomeEmpty() {
            elements.count = 0;
            fillers.count = 0;
            hoursBegun = 0;
            beginAnew();
        }

        private void clearAir() {
            airKind = NONE;
            airNumber = NONE;
            airEnd = 0;
        }

        /** Lets time pass up to a second, or until the hour is over. */
        private void runTo(int limit) {
            for (int turn = 0; turn < MOST_TURNS && second < limit && !over; turn++) {
                if (airKind == NONE) {
                    findNext();
                }
                if (!over) {
                    passAir(limit);
                }
            }
        }

        private void passAir(int limit) {
            int until = Math.min(airEnd, limit);
            if (airKind == SILENCE) {
                silentSeconds += until - second;
            }
            second = until;
            if (second >= airEnd) {
                endAir();
            }
        }

        private void endAir() {
            if (airKind == ELEMENT && elements.has(airNumber)) {
                elements.state[airNumber] = DONE;
            }
            if (airKind == FILLER && fillers.has(airNumber)) {
                fillers.state[airNumber] = DONE;
            }
            clearAir();
        }

        private void findNext() {
            dropForTime();
            int next = elements.firstThatWaits();
            boolean sectionIsEmpty = next == NONE || elements.isFixed(next);
            int goal = elements.goal();
            if (sectionIsEmpty && goal > second) {
                fillGap(goal);
            } else if (next == NONE) {
                over = true;
            } else {
                beginElement(next);
            }
        }

        private void dropForTime() {
            for (int round = 0; round < MOST_ELEMENTS; round++) {
                int least = elements.leastOfSection();
                if (least == NONE || second + elements.sectionLength() <= elements.goal()) {
                    return;
                }
                dropElement(least);
            }
        }

        private void dropElement(int e) {
            if (elements.has(e)) {
                elements.state[e] = DROPPED;
                log.add(second, DROP, e);
            }
        }

        private void fillGap(int goal) {
            int set = fillers.chooseFor(goal - second);
            int lowest = Integer.numberOfTrailingZeros(set);
            if (set != 0 && fillers.has(lowest)) {
                fillers.state[lowest] = ON_AIR;
                fillers.begun[lowest] = second;
                putOnAir(FILLER, lowest, second + fillers.length[lowest]);
            } else {
                putOnAir(SILENCE, NONE, goal);
            }
        }

        private void beginElement(int e) {
            if (!elements.has(e)) {
                return;
            }
            elements.state[e] = ON_AIR;
            elements.begun[e] = second;
            // A floating element's lateness is NONE, which is below every lateness.
            greatestLateness = Math.max(greatestLateness, elements.lateness(e));
            putOnAir(ELEMENT, e, second + elements.length[e]);
        }

        private void putOnAir(int kind, int number, int end) {
            airKind = kind;
            airNumber = number;
            airEnd = end;
            log.add(second, kind, number);
        }

        private boolean canHaveLength(int e, int length) {
            if (length < 1 || length > LONGEST_STRETCHED) {
                return false;
            }
            if (elements.is(e, ON_AIR)) {
                return elements.begunAt(e) + length >= second;
            }
            return elements.waits(e);
        }

        private void giveLength(int e, int length) {
            if (!elements.has(e)) {
                return;
            }
            elements.length[e] = length;
            if (elements.is(e, ON_AIR)) {
                airEnd = elements.begunAt(e) + length;
                if (airEnd <= second) {
                    endAir();
                }
            }
        }

        private int tell(int what) {
            switch (what) {
                case 0:
                    return elements.count;
                case 1:
                    return fillers.count;
                case 2:
                    return second;
                case 3:
                    return over ? 1 : 0;
                case 4:
                    return elements.countThatAre(WAITS);
                case 5:
                    return elements.countThatAre(DROPPED);
                case 6:
                    return fillers.countThatWait();
                case 7:
                    return silentSeconds;
                case 8:
                    return elements.goal();
                case 9:
                    return over ? second - HOUR : NONE;
                case 10:
                    return greatestLateness;
                case 11:
                    return log.count;
                case 12:
                    return hoursBegun;
                default:
                    return airKind == NONE ? 0 : airEnd - second;
            }
        }
    }

    /** The text, and the reading of an hour from it. */
    private static final class Text {
        private static final int END = -1;

        private final int[] bytes = new int[MOST_BYTES];
        private int length = 0;
        private int at = 0;
        private int error = NONE;

        private void put(int value) {
            if (length < MOST_BYTES) {
                bytes[length] = value;
                length++;
            }
        }

        /** Makes the hour that of the text and returns NONE, or the syntax error position. */
        private int readInto(Hour hour) {
            hour.becomeEmpty();
            at = 0;
            error = NONE;
            for (int item = 0; item < MOST_BYTES && at < length && error == NONE; item++) {
                readItem(hour);
            }
            return error;
        }

        private void readItem(Hour hour) {
            if (isDigit(here()) && hour.elements.count < MOST_ELEMENTS) {
                readElement(hour.elements);
            } else if (hour.fillers.count < MOST_FILLERS && take('+')) {
                readFiller(hour.fillers);
            } else {
                fail(at);
            }
        }

        private void readElement(Elements elements) {
            int itsLength = readNumber(4, 1, LONGEST_ELEMENT);
            int time = take('@') ? readNumber(4, 0, HOUR - 1) : NONE;
            int rank = take('r') ? readNumber(1, 0, HIGHEST_RANK) : RANK_WITHOUT_ONE;
            if (takeSemicolon()) {
                elements.add(itsLength, time, rank);
            }
        }

        private void readFiller(Fillers fillers) {
            int itsLength = readNumber(3, 1, LONGEST_FILLER);
            if (takeSemicolon()) {
                fillers.add(itsLength);
            }
        }

        private int readNumber(int mostDigits, int least, int greatest) {
            int first = at;
            int number = 0;
            for (int digits = 0; digits < mostDigits && isDigit(here()); digits++) {
                number = number * 10 + (here() - '0');
                at++;
            }
            if (at == first || isDigit(here())) {
                fail(at);
            } else if (number < least || number > greatest) {
                fail(first);
            }
            return number;
        }

        private boolean takeSemicolon() {
            boolean taken = take(';');
            if (!taken) {
                fail(at);
            }
            return taken;
        }

        /** Goes past this byte if it stands here and nothing was wrong so far. */
        private boolean take(char wanted) {
            boolean taken = error == NONE && here() == wanted;
            if (taken) {
                at++;
            }
            return taken;
        }

        private void fail(int position) {
            if (error == NONE) {
                error = position;
            }
        }

        private int here() {
            return at >= 0 && at < length && at < MOST_BYTES ? bytes[at] : END;
        }

        private boolean isDigit(int value) {
            return value >= '0' && value <= '9';
        }
    }
}
