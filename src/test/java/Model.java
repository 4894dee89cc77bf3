import java.util.ArrayDeque;
import java.util.ArrayList;
import java.util.Deque;
import java.util.List;

/**
 * The document once more, in the slowest and plainest form: second by second, with copies and lists.
 * It shares no code with HourClock, so that random runs of both find where one of them errs.
 */
final class Model {
    static final int NONE = -1;

    private static final class Thing {
        int length;
        int time = NONE;
        int rank = NONE;
        String state = "waits";
        int begun = NONE;

        Thing copy() {
            Thing c = new Thing();
            c.length = length;
            c.time = time;
            c.rank = rank;
            c.state = state;
            c.begun = begun;
            return c;
        }
    }

    private static final class Station {
        List<Thing> elements = new ArrayList<>();
        List<Thing> fillers = new ArrayList<>();
        List<int[]> log = new ArrayList<>();
        Thing onAir = null;
        int silentUntil = NONE;
        int second = 0;
        boolean over = false;
        int silence = 0;
        int hours = 0;

        Station copy() {
            Station c = new Station();
            for (Thing t : elements) {
                c.elements.add(t.copy());
            }
            for (Thing t : fillers) {
                c.fillers.add(t.copy());
            }
            c.log.addAll(log);
            c.onAir = null;
            if (onAir != null) {
                int e = elements.indexOf(onAir);
                c.onAir = e >= 0 ? c.elements.get(e) : c.fillers.get(fillers.indexOf(onAir));
            }
            c.silentUntil = silentUntil;
            c.second = second;
            c.over = over;
            c.silence = silence;
            c.hours = hours;
            return c;
        }

        Thing fixed() {
            for (Thing t : elements) {
                if (t.state.equals("waits") && t.time != NONE) {
                    return t;
                }
            }
            return null;
        }

        int goal() {
            return fixed() == null ? 3600 : fixed().time;
        }

        List<Thing> section() {
            List<Thing> section = new ArrayList<>();
            for (Thing t : elements) {
                if (t.state.equals("waits")) {
                    if (t.time != NONE) {
                        break;
                    }
                    section.add(t);
                }
            }
            return section;
        }

        void log(int kind, int number) {
            log.add(new int[] {second, kind, number});
        }

        void dropped(Thing t) {
            t.state = "dropped";
            log(3, elements.indexOf(t));
        }

        void dropWhatIsTooMuch() {
            while (true) {
                int end = second;
                Thing lowest = null;
                for (Thing t : section()) {
                    end += t.length;
                    if (t.rank < 9 && (lowest == null || t.rank <= lowest.rank)) {
                        lowest = t;
                    }
                }
                if (end <= goal() || lowest == null) {
                    return;
                }
                dropped(lowest);
            }
        }

        List<Integer> choice(int gap) {
            List<Integer> best = new ArrayList<>();
            for (int set = 0; set < 1 << fillers.size(); set++) {
                List<Integer> these = new ArrayList<>();
                boolean allWait = true;
                for (int f = 0; f < fillers.size(); f++) {
                    if ((set >> f & 1) == 1) {
                        these.add(f);
                        allWait &= fillers.get(f).state.equals("waits");
                    }
                }
                // The sets come in the order of their numbers: an equal one that comes later is worse.
                if (allWait && sum(these) <= gap && (sum(these) > sum(best) || sum(these) == sum(best) && these.size() < best.size())) {
                    best = these;
                }
            }
            return best;
        }

        int sum(List<Integer> these) {
            int sum = 0;
            for (int f : these) {
                sum += fillers.get(f).length;
            }
            return sum;
        }

        void begins(Thing t, int kind, int number) {
            t.state = "on the air";
            t.begun = second;
            onAir = t;
            log(kind, number);
        }

        void findTheNextThing() {
            dropWhatIsTooMuch();
            if (!section().isEmpty()) {
                Thing first = section().get(0);
                begins(first, 0, elements.indexOf(first));
            } else if (goal() > second) {
                List<Integer> chosen = choice(goal() - second);
                if (chosen.isEmpty()) {
                    silentUntil = goal();
                    log(2, NONE);
                } else {
                    begins(fillers.get(chosen.get(0)), 1, chosen.get(0));
                }
            } else if (fixed() != null) {
                begins(fixed(), 0, elements.indexOf(fixed()));
            } else {
                over = true;
            }
        }

        void endWhatEnds() {
            if (onAir != null && onAir.begun + onAir.length == second) {
                onAir.state = "done";
                onAir = null;
            }
            if (silentUntil == second) {
                silentUntil = NONE;
            }
        }

        boolean passOneSecond() {
            if (!over && onAir == null && silentUntil == NONE) {
                findTheNextThing();
            }
            if (over) {
                return false;
            }
            if (silentUntil != NONE) {
                silence++;
            }
            second++;
            endWhatEnds();
            return true;
        }

        Station end() {
            while (passOneSecond()) {
                // until the hour is over
            }
            return this;
        }

        int count(List<Thing> things, String state) {
            int n = 0;
            for (Thing t : things) {
                n += t.state.equals(state) ? 1 : 0;
            }
            return n;
        }
    }

    private Station now = new Station();
    private String text = "";
    private final Deque<Station> saved = new ArrayDeque<>();

    private void save() {
        saved.addLast(now.copy());
        if (saved.size() > 4) {
            saved.removeFirst();
        }
    }

    private static void argument(boolean fine) {
        if (!fine) {
            throw new IllegalArgumentException();
        }
    }

    private static void state(boolean fine) {
        if (!fine) {
            throw new IllegalStateException();
        }
    }

    private static Thing at(List<Thing> things, int n) {
        if (n < 0 || n >= things.size()) {
            throw new IndexOutOfBoundsException();
        }
        return things.get(n);
    }

    int addElement(int length, int time, int rank) {
        argument(length >= 1 && length <= 1800 && (time == NONE || time >= 0 && time <= 3599) && rank >= 0 && rank <= 9);
        state(now.elements.size() < 12 && !now.over);
        save();
        Thing t = new Thing();
        t.length = length;
        t.time = time;
        t.rank = rank;
        now.elements.add(t);
        return now.elements.size() - 1;
    }

    int addFiller(int length) {
        argument(length >= 1 && length <= 900);
        state(now.fillers.size() < 10 && !now.over);
        save();
        Thing t = new Thing();
        t.length = length;
        now.fillers.add(t);
        return now.fillers.size() - 1;
    }

    int stretch(int element, int by) {
        Thing t = at(now.elements, element);
        argument(by >= -1800 && by <= 1800);
        int length = t.length + by;
        state(!t.state.equals("done") && !t.state.equals("dropped") && length >= 1 && length <= 3600);
        state(!t.state.equals("on the air") || t.begun + length >= now.second);
        save();
        now.elements.get(element).length = length;
        now.endWhatEnds();
        return length;
    }

    int drop(int element) {
        Thing t = at(now.elements, element);
        state(t.state.equals("waits"));
        save();
        now.dropped(now.elements.get(element));
        return value(4);
    }

    int pass(int seconds) {
        argument(seconds >= 1 && seconds <= 3600);
        save();
        int passed = 0;
        while (passed < seconds && now.passOneSecond()) {
            passed++;
        }
        return passed;
    }

    int finish() {
        save();
        now.end();
        return now.second - 3600;
    }

    int again() {
        state(now.over);
        save();
        Station next = new Station();
        for (Thing t : now.elements) {
            t.state = "waits";
            t.begun = NONE;
            next.elements.add(t);
        }
        for (Thing t : now.fillers) {
            t.state = "waits";
            t.begun = NONE;
            next.fillers.add(t);
        }
        next.hours = now.hours + 1;
        now = next;
        return now.hours;
    }

    private static int code(String state) {
        return List.of("waits", "on the air", "done", "dropped").indexOf(state);
    }

    private static int lateness(Thing t) {
        return t.time == NONE || t.begun == NONE ? NONE : t.begun - t.time;
    }

    int element(int element, int what) {
        Thing t = at(now.elements, element);
        argument(what >= 0 && what <= 6);
        int[] all = {t.length, t.time, t.rank, code(t.state), t.begun, lateness(t), now.section().contains(t) ? 1 : 0};
        return all[what];
    }

    int filler(int filler, int what) {
        Thing t = at(now.fillers, filler);
        argument(what >= 0 && what <= 2);
        int[] all = {t.length, code(t.state), t.begun};
        return all[what];
    }

    int value(int what) {
        argument(what >= 0 && what <= 13);
        int greatest = 0;
        for (Thing t : now.elements) {
            greatest = Math.max(greatest, lateness(t));
        }
        int left = now.onAir != null ? now.onAir.begun + now.onAir.length - now.second : 0;
        if (now.silentUntil != NONE) {
            left = now.silentUntil - now.second;
        }
        int[] all = {now.elements.size(), now.fillers.size(), now.second, now.over ? 1 : 0,
            now.count(now.elements, "waits"), now.count(now.elements, "dropped"), now.count(now.fillers, "waits"), now.silence,
            now.goal(), now.over ? now.second - 3600 : NONE, greatest, now.log.size(), now.hours, left};
        return all[what];
    }

    int entry(int entry, int what) {
        if (entry < 0 || entry >= now.log.size()) {
            throw new IndexOutOfBoundsException();
        }
        argument(what >= 0 && what <= 2);
        return now.log.get(entry)[what];
    }

    int backTime(int element) {
        Thing t = at(now.elements, element);
        if (!t.state.equals("waits")) {
            return -10000;
        }
        List<Thing> behind = new ArrayList<>();
        int end = 3600;
        for (int e = element + 1; e < now.elements.size(); e++) {
            Thing next = now.elements.get(e);
            if (next.state.equals("waits")) {
                if (next.time != NONE) {
                    end = next.time;
                    break;
                }
                behind.add(next);
            }
        }
        for (Thing next : behind) {
            end -= next.length;
        }
        return end - t.length;
    }

    int beginOf(int element) {
        Thing t = at(now.elements, element);
        return t.begun != NONE ? t.begun : now.copy().end().elements.get(element).begun;
    }

    int endOfHour() {
        return now.copy().end().second;
    }

    int drops() {
        Station end = now.copy().end();
        int set = 0;
        for (int e = 0; e < now.elements.size(); e++) {
            if (now.elements.get(e).state.equals("waits") && end.elements.get(e).state.equals("dropped")) {
                set += 1 << e;
            }
        }
        return set;
    }

    int silence() {
        Station copy = now.copy();
        copy.silence = 0;
        return copy.end().silence;
    }

    int choice(int gap) {
        argument(gap >= 1 && gap <= 3600);
        int set = 0;
        for (int f : now.choice(gap)) {
            set += 1 << f;
        }
        return set;
    }

    int nextFull(int above) {
        argument(above >= 0 && above <= 3600);
        boolean[] full = new boolean[9001];
        full[0] = true;
        for (Thing t : now.fillers) {
            for (int sum = 9000; t.state.equals("waits") && sum >= t.length; sum--) {
                full[sum] |= full[sum - t.length];
            }
        }
        for (int sum = above + 1; sum <= 9000; sum++) {
            if (full[sum]) {
                return sum;
            }
        }
        return NONE;
    }

    int bestDrop() {
        int best = NONE;
        Station end = now.copy().end();
        int most = end.count(end.elements, "done");
        for (int e = 0; e < now.elements.size(); e++) {
            if (now.elements.get(e).state.equals("waits")) {
                Station other = now.copy();
                other.dropped(other.elements.get(e));
                other.end();
                if (other.count(other.elements, "done") > most) {
                    most = other.count(other.elements, "done");
                    best = e;
                }
            }
        }
        return best;
    }

    double sounding() {
        return now.second == 0 ? 1.0 : (double) (now.second - now.silence) / (double) now.second;
    }

    int append(int value) {
        argument(value >= 0 && value <= 127);
        state(text.length() < 100);
        text += (char) value;
        return text.length();
    }

    int clearText() {
        int length = text.length();
        text = "";
        return length;
    }

    int parse() {
        Station next = new Station();
        int error = read(text, next);
        if (error != NONE) {
            return -10 - error;
        }
        save();
        now = next;
        return now.elements.size();
    }

    /** Byte by byte: what may stand here depends on the part of the item that was read last. */
    private static int read(String text, Station into) {
        String part = "";
        int first = 0;
        Thing t = null;
        for (int i = 0; i <= text.length(); i++) {
            char c = i < text.length() ? text.charAt(i) : '$';
            boolean digit = c >= '0' && c <= '9';
            if (part.isEmpty()) {
                if (i == text.length()) {
                    return NONE;
                }
                t = new Thing();
                if (digit && into.elements.size() < 12) {
                    t.rank = 5;
                    part = "length";
                    first = i;
                } else if (c == '+' && into.fillers.size() < 10) {
                    part = "filler";
                    first = i + 1;
                } else {
                    return i;
                }
                continue;
            }
            int most = part.equals("filler") ? 3 : part.equals("rank") ? 1 : 4;
            if (digit && i - first < most) {
                continue;
            }
            if (digit || i == first) {
                return i;
            }
            int number = Integer.parseInt(text.substring(first, i));
            int least = part.equals("time") || part.equals("rank") ? 0 : 1;
            int greatest = part.equals("length") ? 1800 : part.equals("time") ? 3599 : part.equals("filler") ? 900 : 9;
            if (number < least || number > greatest) {
                return first;
            }
            if (part.equals("time")) {
                t.time = number;
            } else if (part.equals("rank")) {
                t.rank = number;
            } else {
                t.length = number;
            }
            if (c == ';' && i < text.length()) {
                (part.equals("filler") ? into.fillers : into.elements).add(t);
                part = "";
            } else if (c == '@' && part.equals("length")) {
                part = "time";
                first = i + 1;
            } else if (c == 'r' && (part.equals("length") || part.equals("time"))) {
                part = "rank";
                first = i + 1;
            } else {
                return i;
            }
        }
        throw new IllegalStateException("not reached");
    }

    int undo() {
        state(!saved.isEmpty());
        now = saved.removeLast();
        return saved.size();
    }

    long digest() {
        List<Integer> values = new ArrayList<>();
        values.add(text.length());
        for (int what = 0; what <= 13; what++) {
            values.add(value(what));
        }
        Station end = now.copy().end();
        for (int e = 0; e < now.elements.size(); e++) {
            for (int what = 0; what <= 6; what++) {
                values.add(element(e, what));
            }
            values.add(backTime(e));
            values.add(end.elements.get(e).begun);
        }
        for (int f = 0; f < now.fillers.size(); f++) {
            for (int what = 0; what <= 2; what++) {
                values.add(filler(f, what));
            }
        }
        for (int[] entry : now.log) {
            for (int v : entry) {
                values.add(v);
            }
        }
        values.add(end.second);
        values.add(saved.size());
        long h = 3559;
        for (int v : values) {
            h = 31 * h + v;
        }
        return h;
    }
}
