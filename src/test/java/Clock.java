import java.util.ArrayList;
import java.util.List;
import java.util.function.Consumer;

/**
 * A HourClock for the tests. It counts the calls, because nothing is promised after the 512th, and
 * keeps those that changed something, so that a twin can be made, on which a test may ask and try
 * as much as it likes.
 */
final class Clock {
    static final int NONE = HourClock.NONE;
    static final int MOST_CALLS = 512;

    private final HourClock clock = new HourClock();
    private final List<Consumer<Clock>> changes = new ArrayList<>();
    private int calls = 0;

    /** A new object that has come to the same state by the same changes. */
    Clock twin() {
        Clock twin = new Clock();
        for (Consumer<Clock> change : changes) {
            change.accept(twin);
        }
        return twin;
    }

    int callsLeft() {
        return MOST_CALLS - calls;
    }

    private HourClock counted() {
        calls++;
        if (calls == MOST_CALLS + 1) {
            Check.tell("a test makes more than " + MOST_CALLS + " calls on one object: "
                + StackWalker.getInstance().walk(frames -> frames.map(f -> f.getMethodName()).toList()));
        }
        return clock;
    }

    private int changed(int answer, Consumer<Clock> change) {
        changes.add(change);
        return answer;
    }

    int addElement(int length, int time, int rank) {
        return changed(counted().addElement(length, time, rank), c -> c.addElement(length, time, rank));
    }

    int addFiller(int length) {
        return changed(counted().addFiller(length), c -> c.addFiller(length));
    }

    int stretch(int element, int by) {
        return changed(counted().stretch(element, by), c -> c.stretch(element, by));
    }

    int drop(int element) {
        return changed(counted().drop(element), c -> c.drop(element));
    }

    int pass(int seconds) {
        return changed(counted().pass(seconds), c -> c.pass(seconds));
    }

    int finish() {
        return changed(counted().finish(), c -> c.finish());
    }

    int again() {
        return changed(counted().again(), c -> c.again());
    }

    int append(int value) {
        return changed(counted().append(value), c -> c.append(value));
    }

    int clearText() {
        return changed(counted().clearText(), c -> c.clearText());
    }

    int parse() {
        return changed(counted().parse(), c -> c.parse());
    }

    int undo() {
        return changed(counted().undo(), c -> c.undo());
    }

    int element(int element, int what) {
        return counted().element(element, what);
    }

    int filler(int filler, int what) {
        return counted().filler(filler, what);
    }

    int value(int what) {
        return counted().value(what);
    }

    int entry(int entry, int what) {
        return counted().entry(entry, what);
    }

    int backTime(int element) {
        return counted().backTime(element);
    }

    int beginOf(int element) {
        return counted().beginOf(element);
    }

    int endOfHour() {
        return counted().endOfHour();
    }

    int drops() {
        return counted().drops();
    }

    int silence() {
        return counted().silence();
    }

    int choice(int gap) {
        return counted().choice(gap);
    }

    int nextFull(int above) {
        return counted().nextFull(above);
    }

    int bestDrop() {
        return counted().bestDrop();
    }

    double sounding() {
        return counted().sounding();
    }

    long digest() {
        return counted().digest();
    }
}
