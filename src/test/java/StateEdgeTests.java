import java.math.BigInteger;
import java.util.ArrayList;
import java.util.List;

/** The edges of the promises 25 and 26, and of "Undo" and "Exceptions" for all calls. */
public final class StateEdgeTests {
    private static final String FULL = "1;2@50r9;3;4r0;5;6;7;8@90;9;10;11;12;+1;+2;+3;+4;+5;+6;+7;+8;+9;+10;";

    public static void main(String[] args) {
        p25RefusedWithoutASavedState();
        p25ReturnsHowManyRemain();
        p25AtMost4AreSaved();
        p25TheOldestIsDroppedFirst();
        p25TheMostRecentOneIsRestored();
        p25IsNotUndoable();
        p25GoesOnFromWhatIsRestored();
        p25EachUndoableCallSaves();
        p25EvenIfTheCallChangesNothing();
        p25OtherCallsSaveNothing();
        p25RefusedCallsSaveNothing();
        p25EverythingIsRestored();
        p25TheTextIsNotRestored();
        exceptionsOfANewObject();
        exceptionsOnTheWay();
        exceptionsWhenItIsOver();
        exceptionsOfAFullHour();
        p26OfANewObject();
        p26OfKnownValues();
        p26AllThatItTellsOf();
        p26EachValueCounts();
        p26OverflowIsIgnored();
        p26ChangesNothing();
        Check.end("StateEdgeTests");
    }

    // ---- promise 25

    private static void p25RefusedWithoutASavedState() {
        Check.failsState("undo() of a new object", new Clock(), c -> c.undo());
        Clock x = new Clock();
        Check.type(x, "x");
        x.parse();
        Check.failsState("undo() behind a wrong text", x, c -> c.undo());
        x.addFiller(1);
        x.undo();
        Check.failsState("undo() behind the only one", x, c -> c.undo());
        x.addFiller(1);
        Check.same("undo() of a new one", x.undo(), 0);
    }

    private static void p25ReturnsHowManyRemain() {
        for (int calls = 0; calls <= 7; calls++) {
            Clock x = new Clock();
            for (int n = 1; n <= calls; n++) {
                x.addFiller(n);
            }
            for (int left = Math.min(4, calls) - 1; left >= 0; left--) {
                Check.same("undo() behind " + calls + " calls", x.undo(), left);
            }
            Check.failsState("one undo() more", x, c -> c.undo());
        }
    }

    private static void p25AtMost4AreSaved() {
        int[] due = {0, 1, 2, 3, 4, 4, 4, 4, 4, 4, 4};
        Clock x = new Clock();
        for (int n = 0; n < due.length; n++) {
            Check.same("saved states behind " + n + " calls", Check.saved(x), due[n]);
            x.addElement(1, -1, 9);
        }
    }

    private static void p25TheOldestIsDroppedFirst() {
        for (int calls = 4; calls <= 10; calls++) {
            Clock x = new Clock();
            for (int n = 1; n <= calls; n++) {
                x.addFiller(n);
            }
            for (int n = 1; n <= 4; n++) {
                x.undo();
                Check.same("fillers, " + n + " undone of " + calls, x.value(1), calls - n);
            }
            for (int f = 0; f < calls - 4; f++) {
                Check.same("the filler " + f, x.filler(f, 0), f + 1);
            }
        }
    }

    private static void p25TheMostRecentOneIsRestored() {
        Clock x = new Clock();
        x.addElement(10, -1, 5);
        x.stretch(0, 1);
        x.stretch(0, 2);
        x.stretch(0, 4);
        Check.same("at first", x.element(0, 0), 17);
        x.undo();
        Check.same("once", x.element(0, 0), 13);
        x.undo();
        Check.same("twice", x.element(0, 0), 11);
        x.stretch(0, 50);
        x.undo();
        Check.same("the new one", x.element(0, 0), 11);
        x.undo();
        Check.same("then an older one", x.element(0, 0), 10);
        x.undo();
        Check.same("then the first one", x.value(0), 0);
    }

    private static void p25IsNotUndoable() {
        Clock x = new Clock();
        x.addElement(10, -1, 5);
        x.addElement(20, -1, 5);
        Check.same("undo()", x.undo(), 1);
        Check.same("undo() takes nothing back of undo()", x.undo(), 0);
        Check.same("no elements", x.value(0), 0);
    }

    private static void p25GoesOnFromWhatIsRestored() {
        Clock x = Check.hour("10;20;5@50;+7;");
        x.pass(12);
        String due = Check.view(afterwards(x.twin()));
        x.stretch(1, 100);
        x.drop(2);
        x.pass(60);
        x.undo();
        x.undo();
        x.undo();
        Check.sameText("what was undone leaves no trace", Check.view(afterwards(x)), due);
    }

    private static Clock afterwards(Clock x) {
        x.pass(20);
        x.addElement(3, -1, 9);
        x.addFiller(9);
        x.pass(20);
        return x;
    }

    private static void p25EachUndoableCallSaves() {
        Clock x = Check.hour("10;20;5@50;+7;");
        x.pass(12);
        Check.undoable("addElement", x, c -> c.addElement(1, 2, 3));
        Check.undoable("addFiller", x, c -> c.addFiller(4));
        Check.undoable("stretch", x, c -> c.stretch(1, 5));
        Check.undoable("drop", x, c -> c.drop(2));
        Check.undoable("pass", x, c -> c.pass(1000));
        Check.undoable("finish", x, c -> c.finish());
        Check.undoable("parse", x, c -> c.parse());
        x.finish();
        Check.undoable("again", x, c -> c.again());
        x.again();
        Check.same("four saved", Check.saved(x), 4);
        Check.undoable("a call behind four", x, c -> c.addFiller(4));
    }

    private static void p25EvenIfTheCallChangesNothing() {
        Clock x = Check.hour("10;");
        Check.undoable("stretch by 0", x, c -> c.stretch(0, 0));
        Check.undoable("parse() of the same", x, c -> c.parse());
        x.finish();
        Check.undoable("pass() when it is over", x, c -> c.pass(1));
        Check.undoable("finish() when it is over", x, c -> c.finish());
        Clock y = Check.hour("10;");
        y.pass(3);
        for (int n = 0; n < 4; n++) {
            y.stretch(0, 0);
        }
        for (int left = 3; left >= 0; left--) {
            Check.same("undo() of nothing", y.undo(), left);
            Check.same("the second stays", y.value(2), 3);
        }
        Check.failsState("pass(3) is not saved any more", y, c -> c.undo());
    }

    private static void p25OtherCallsSaveNothing() {
        Clock x = Check.hour("10;20;5@50;+7;");
        x.pass(12);
        Check.savesNothing("element", x, c -> c.element(0, 0));
        Check.savesNothing("filler", x, c -> c.filler(0, 0));
        Check.savesNothing("value", x, c -> c.value(0));
        Check.savesNothing("entry", x, c -> c.entry(0, 0));
        Check.savesNothing("backTime", x, c -> c.backTime(2));
        Check.savesNothing("beginOf", x, c -> c.beginOf(2));
        Check.savesNothing("endOfHour", x, c -> c.endOfHour());
        Check.savesNothing("drops", x, c -> c.drops());
        Check.savesNothing("silence", x, c -> c.silence());
        Check.savesNothing("choice", x, c -> c.choice(10));
        Check.savesNothing("nextFull", x, c -> c.nextFull(0));
        Check.savesNothing("bestDrop", x, c -> c.bestDrop());
        Check.savesNothing("sounding", x, c -> c.sounding());
        Check.savesNothing("append", x, c -> c.append('x'));
        Check.savesNothing("clearText", x, c -> c.clearText());
        Check.savesNothing("digest", x, c -> c.digest());
    }

    /** Check.fails looks at the saved states, too. */
    private static void p25RefusedCallsSaveNothing() {
        Clock x = Check.hour("10;20;5@50;+7;");
        x.pass(12);
        Check.failsArgument("addElement", x, c -> c.addElement(0, 0, 0));
        Check.failsArgument("addFiller", x, c -> c.addFiller(0));
        Check.failsState("stretch", x, c -> c.stretch(0, 0));
        Check.failsState("drop", x, c -> c.drop(0));
        Check.failsArgument("pass", x, c -> c.pass(0));
        Check.failsState("again", x, c -> c.again());
        x.append('x');
        Check.savesNothing("parse", x, c -> c.parse());
    }

    private static void p25EverythingIsRestored() {
        Clock x = Check.hour(FULL);
        int[] passed = {1, 1, 4, 20, 30, 40, 100, 1000, 3600};
        for (int seconds : passed) {
            Clock y = x.twin();
            String due = Check.view(x.twin());
            long digest = x.twin().digest() - Check.saved(x);
            y.clearText();
            Check.parse(y, "1800@0r9;+900;");
            y.finish();
            y.again();
            y.undo();
            y.undo();
            y.undo();
            Check.sameText("at " + x.value(2), Check.view(y), due);
            Check.type(y, FULL);
            // The saved states, of which fewer are left, are the last of what the digest adds up.
            Check.same("the digest at " + x.value(2), y.digest() - Check.saved(y), digest);
            x.pass(seconds);
        }
    }

    private static void p25TheTextIsNotRestored() {
        Clock x = new Clock();
        Check.type(x, "5;");
        x.parse();
        Check.append(x, "6;");
        Check.same("undo()", x.undo(), 0);
        Check.same("the hour from before parse()", x.value(0), 0);
        Check.same("the text of now", x.parse(), 2);
        x.clearText();
        x.undo();
        Check.same("it stays empty", x.clearText(), 0);
        x.addFiller(1);
        Check.append(x, "789;");
        x.undo();
        Check.same("it stays longer", x.clearText(), 4);
    }

    // ---- exceptions: each call that throws, in states of several kinds

    /** The calls that are refused whatever the state is. */
    private static void alwaysRefused(Clock x) {
        int elements = x.value(0);
        int fillers = x.value(1);
        int entries = x.value(11);
        Check.failsArgument("addElement", x, c -> c.addElement(1801, 0, 0));
        Check.failsArgument("addElement", x, c -> c.addElement(1, 3600, 0));
        Check.failsArgument("addElement", x, c -> c.addElement(1, 0, 10));
        Check.failsArgument("addFiller", x, c -> c.addFiller(901));
        Check.failsIndex("stretch", x, c -> c.stretch(elements, 1801));
        Check.failsIndex("stretch", x, c -> c.stretch(-1, 0));
        Check.failsIndex("drop", x, c -> c.drop(elements));
        Check.failsIndex("drop", x, c -> c.drop(-1));
        Check.failsArgument("pass", x, c -> c.pass(0));
        Check.failsArgument("pass", x, c -> c.pass(3601));
        Check.failsIndex("element", x, c -> c.element(elements, 7));
        Check.failsIndex("filler", x, c -> c.filler(fillers, 3));
        Check.failsIndex("entry", x, c -> c.entry(entries, 3));
        Check.failsArgument("value", x, c -> c.value(-1));
        Check.failsArgument("value", x, c -> c.value(14));
        Check.failsIndex("backTime", x, c -> c.backTime(elements));
        Check.failsIndex("beginOf", x, c -> c.beginOf(elements));
        Check.failsArgument("choice", x, c -> c.choice(0));
        Check.failsArgument("choice", x, c -> c.choice(3601));
        Check.failsArgument("nextFull", x, c -> c.nextFull(-1));
        Check.failsArgument("nextFull", x, c -> c.nextFull(3601));
        Check.failsArgument("append", x, c -> c.append(-1));
        Check.failsArgument("append", x, c -> c.append(128));
    }

    private static void exceptionsOfANewObject() {
        Clock x = new Clock();
        alwaysRefused(x);
        Check.failsState("again", x, c -> c.again());
        Check.failsState("undo", x, c -> c.undo());
    }

    private static void exceptionsOnTheWay() {
        Clock x = Check.hour("10r9;20r0;5@15;9;+7;");
        x.pass(12);
        alwaysRefused(x);
        Check.failsState("stretch of one that is dropped", x, c -> c.stretch(1, 0));
        Check.failsState("drop of one that is done", x, c -> c.drop(0));
        Check.failsState("again", x, c -> c.again());
        Check.failsArgument("element", x, c -> c.element(0, 7));
        Check.failsArgument("filler", x, c -> c.filler(0, 3));
        Check.failsArgument("entry", x, c -> c.entry(0, 3));
        Check.failsArgument("stretch", x, c -> c.stretch(0, 1801));
    }

    private static void exceptionsWhenItIsOver() {
        Clock x = Check.hour("10r9;20r0;5@15;9;+7;");
        x.finish();
        alwaysRefused(x);
        Check.failsState("addElement", x, c -> c.addElement(1, 0, 0));
        Check.failsState("addFiller", x, c -> c.addFiller(1));
        for (int e = 0; e < 4; e++) {
            int element = e;
            Check.failsState("stretch", x, c -> c.stretch(element, 0));
            Check.failsState("drop", x, c -> c.drop(element));
        }
    }

    private static void exceptionsOfAFullHour() {
        Clock x = Check.hour(FULL);
        x.pass(40);
        alwaysRefused(x);
        Check.failsState("addElement", x, c -> c.addElement(1, 0, 0));
        Check.failsState("addFiller", x, c -> c.addFiller(1));
        while (Check.textLength(x) < 100) {
            x.append('x');
        }
        Check.failsState("append", x, c -> c.append('1'));
        Check.failsArgument("append", x, c -> c.append(128));
    }

    // ---- promise 26

    /** The hash in whole numbers without any overflow, brought to 64 bits at the end. */
    private static long hash(List<Integer> values) {
        BigInteger h = BigInteger.valueOf(3559);
        for (int v : values) {
            h = h.multiply(BigInteger.valueOf(31)).add(BigInteger.valueOf(v));
        }
        return h.longValue();
    }

    private static List<Integer> list(int... values) {
        List<Integer> list = new ArrayList<>();
        for (int v : values) {
            list.add(v);
        }
        return list;
    }

    private static void p26OfANewObject() {
        List<Integer> values = list(0, 0, 0, 0, 0, 0, 0, 0, 0, 3600, -1, 0, 0, 0, 0, 3600, 0);
        Check.same("digest() of a new object", new Clock().digest(), hash(values));
    }

    private static void p26OfKnownValues() {
        Clock x = new Clock();
        Check.append(x, "abc");
        x.addElement(10, 5, 3);
        x.addElement(20, -1, 9);
        x.addFiller(4);
        x.pass(6);
        List<Integer> values = list(3);
        values.addAll(list(2, 1, 6, 0, 1, 0, 0, 1, 3600, -1, 0, 3, 0, 9));
        values.addAll(list(10, 5, 3, 1, 5, 0, 0, -10000, 5));
        values.addAll(list(20, -1, 9, 0, -1, -1, 1, 3580, 15));
        values.addAll(list(4, 2, 0));
        values.addAll(list(0, 1, 0, 4, 2, -1, 5, 0, 0));
        values.addAll(list(3600, 4));
        Check.same("digest() at 6", x.digest(), hash(values));
    }

    private static List<Integer> values(Clock x) {
        Clock y = x.twin();
        List<Integer> values = list(Check.textLength(x));
        for (int what = 0; what <= 13; what++) {
            values.add(y.value(what));
        }
        for (int e = 0, elements = y.value(0); e < elements; e++) {
            for (int what = 0; what <= 6; what++) {
                values.add(y.element(e, what));
            }
            values.addAll(list(y.backTime(e), y.beginOf(e)));
        }
        for (int f = 0, fillers = y.value(1); f < fillers; f++) {
            values.addAll(list(y.filler(f, 0), y.filler(f, 1), y.filler(f, 2)));
        }
        for (int n = 0, entries = y.value(11); n < entries; n++) {
            values.addAll(list(y.entry(n, 0), y.entry(n, 1), y.entry(n, 2)));
        }
        values.addAll(list(y.endOfHour(), Check.saved(x)));
        return values;
    }

    private static void p26AllThatItTellsOf() {
        String[] texts = {"", "5;", "+5;", FULL, "5@0;6@100r0;7;+20;"};
        for (String text : texts) {
            Clock x = new Clock();
            Check.type(x, text);
            Check.same("digest() ahead of " + text, x.digest(), hash(values(x)));
            x.parse();
            for (int n = 0; n < 7; n++) {
                Check.same("digest() of " + text + " at " + x.value(2), x.digest(), hash(values(x)));
                x.pass(1 + n * n);
            }
            x.finish();
            Check.same("digest() of " + text + " when it is over", x.digest(), hash(values(x)));
            x.again();
            Check.same("digest() of " + text + " in the next hour", x.digest(), hash(values(x)));
        }
    }

    private static void p26EachValueCounts() {
        Clock x = Check.hour("10;20r0;5@50;+7;");
        x.pass(12);
        long digest = x.digest();
        Clock[] others = {x.twin(), x.twin(), x.twin(), x.twin(), x.twin()};
        others[0].append(0);
        others[1].stretch(1, 0);
        others[2].addElement(1, -1, 5);
        others[3].addFiller(1);
        others[4].pass(1);
        for (Clock other : others) {
            Check.same("another digest", other.digest() == digest ? 1 : 0, 0);
        }
        Check.same("the same digest", x.twin().digest(), digest);
        others[0].clearText();
        Check.type(others[0], "sixteen letters!");
        Check.same("only the length of the text counts", others[0].digest(), digest);
    }

    /** The hash of so many values passes 2 to the power of 63 again and again. */
    private static void p26OverflowIsIgnored() {
        Clock x = Check.hour(FULL);
        int below0 = 0;
        for (int n = 0; n < 40; n++) {
            long digest = x.digest();
            Check.same("digest() at " + n, digest, hash(values(x)));
            below0 += digest < 0 ? 1 : 0;
            x.pass(1);
        }
        Check.same("some are below 0, some are not", below0 > 0 && below0 < 40 ? 1 : 0, 1);
    }

    private static void p26ChangesNothing() {
        Clock x = Check.hour(FULL);
        x.pass(12);
        Check.asks("digest()", x, c -> c.digest());
        Check.same("digest() twice", x.digest(), x.digest());
        Check.asks("digest() of a new object", new Clock(), c -> c.digest());
    }
}
