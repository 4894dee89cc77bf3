/** The edges of the promises 7 to 12, a method for each sentence of the document that names one. */
public final class AnswerEdgeTests {
    private static final String TWELVE = "1r9;1r9;1r9;1r9;1r9;1r9;1r9;1r9;1r9;1r9;1r9;1r9;";
    private static final String TEN = "+9;+9;+9;+9;+9;+9;+9;+9;+9;+9;";

    public static void main(String[] args) {
        p7ReturnsTheLateness();
        p7OfTheLongestHour();
        p7WhenItIsOverNothingPasses();
        p7IsUndoable();
        p8OnlyWhenTheHourIsOver();
        p8AllWaitAgain();
        p8LengthsStayAsTheyAre();
        p8TheNumbersAreThoseOfTheNewHour();
        p8CountsTheHours();
        p8IsUndoable();
        p9NumberOfAnElement();
        p9WhatFrom0To6();
        p9IndexComesBeforeArgument();
        p9State();
        p9BeginIsNoneIfItHasNotBegun();
        p9LatenessIsNoneFor();
        p9Section();
        p10NumberOfAFiller();
        p10WhatFrom0To2();
        p10IndexComesBeforeArgument();
        p10StateAndBegin();
        p11WhatFrom0To13();
        p11SecondsOfSilenceThatHavePassed();
        p11Goal();
        p11LatenessOfTheHour();
        p11GreatestLateness();
        p11SecondsForWhichItGoesOn();
        p11FillersThatWait();
        p12NumberOfAnEntry();
        p12WhatFrom0To2();
        p12IndexComesBeforeArgument();
        p12KindsAndNumbers();
        p12AsManyAsThereCanBe();
        Check.end("AnswerEdgeTests");
    }

    private static Clock over(String text) {
        Clock x = Check.hour(text);
        x.finish();
        return x;
    }

    // ---- promise 7

    private static void p7ReturnsTheLateness() {
        Check.same("finish() in time", Check.hour("1800r9;1800r9;").finish(), 0);
        Check.same("finish() a second late", Check.hour("1@0;1800r9;1800r9;").finish(), 1);
        Check.same("finish() of an element of the last second", Check.hour("1@3599;").finish(), 0);
        Check.same("finish() of two seconds there", Check.hour("2@3599;").finish(), 1);
        Clock x = new Clock();
        x.pass(3600);
        Check.same("finish() at 3600", x.finish(), 0);
        Check.same("over", x.value(3), 1);
    }

    private static void p7OfTheLongestHour() {
        Clock x = Check.hour(TWELVE);
        for (int e = 0; e < 12; e++) {
            x.stretch(e, 1800);
            x.stretch(e, 1799);
        }
        Check.same("endOfHour()", x.endOfHour(), 12 * 3600);
        Check.same("finish()", x.finish(), 11 * 3600);
        Check.same("the second", x.value(2), 12 * 3600);
        Clock y = Check.hour("1@3599;1;");
        y.stretch(0, 1800);
        y.stretch(0, 1799);
        Check.same("a floating one is dropped when it is so late", y.finish(), 3599);
    }

    private static void p7WhenItIsOverNothingPasses() {
        Clock x = Check.hour("600;600@3300;");
        x.finish();
        String before = Check.view(x.twin());
        Check.same("finish() again", x.finish(), 300);
        Check.sameText("nothing is another", Check.view(x.twin()), before);
    }

    private static void p7IsUndoable() {
        Check.undoable("finish() of an empty hour", new Clock(), c -> c.finish());
        Check.undoable("finish() when it is over", over("10;+5;"), c -> c.finish());
        Clock x = Check.hour("100;1800r0;1800r9;10@700;+50;");
        x.pass(50);
        Check.undoable("finish() on the way", x, c -> c.finish());
    }

    // ---- promise 8

    private static void p8OnlyWhenTheHourIsOver() {
        Clock x = new Clock();
        Check.failsState("again() at 0", x, c -> c.again());
        x.pass(3599);
        Check.failsState("again() at 3599", x, c -> c.again());
        x.pass(1);
        Check.failsState("again() at 3600, not found to be over", x, c -> c.again());
        x.pass(1);
        Check.same("again() when it is over", x.again(), 1);
        Check.failsState("again() at once again", x, c -> c.again());
    }

    private static void p8AllWaitAgain() {
        Clock x = Check.hour("10;20;1800r0;1800r0;5@2000;+7;+900;+8;");
        x.drop(1);
        x.finish();
        Check.sameRow("before: the elements", e -> x.element(e, 3), 2, 3, 2, 3, 2);
        Check.sameRow("before: the fillers", f -> x.filler(f, 1), 2, 2, 2);
        x.again();
        Check.sameRow("the elements wait", e -> x.element(e, 3), 0, 0, 0, 0, 0);
        Check.sameRow("the elements have not begun", e -> x.element(e, 4), -1, -1, -1, -1, -1);
        Check.sameRow("their times", e -> x.element(e, 1), -1, -1, -1, -1, 2000);
        Check.sameRow("their ranks", e -> x.element(e, 2), 5, 5, 0, 0, 5);
        Check.sameRow("the fillers wait", f -> x.filler(f, 1), 0, 0, 0);
        Check.sameRow("the fillers have not begun", f -> x.filler(f, 2), -1, -1, -1);
        Check.same("an hour without anything", over("").again(), 1);
    }

    private static void p8LengthsStayAsTheyAre() {
        Clock x = Check.hour("10r9;20r9;30@500;");
        x.stretch(1, 1800);
        x.pass(5);
        x.stretch(0, -5);
        x.stretch(2, -29);
        x.finish();
        x.again();
        Check.sameRow("the lengths", e -> x.element(e, 0), 5, 1820, 1);
        Check.sameRow("the begins then", e -> x.beginOf(e), 0, 5, 1825);
    }

    private static void p8TheNumbersAreThoseOfTheNewHour() {
        Clock x = Check.hour("10@5;1800@3000;+4;");
        x.finish();
        Check.same("before: silence", x.value(7) > 0 ? 1 : 0, 1);
        Check.same("before: lateness of the hour", x.value(9), 1200);
        x.again();
        Check.sameRow("value", what -> x.value(what), 2, 1, 0, 0, 2, 0, 1, 0, 5, -1, 0, 0, 1, 0);
        Check.sameDouble("sounding()", x.sounding(), 1.0);
        Check.numbersBelow("entry", x, 0, (c, n) -> c.entry(n, 0));
        x.pass(5);
        Check.same("the log begins anew", x.value(11), 2);
        Check.same("with the second 0", x.entry(0, 0), 0);
    }

    private static void p8CountsTheHours() {
        Clock x = new Clock();
        for (int hours = 1; hours <= 20; hours++) {
            x.finish();
            Check.same("the hours before", x.value(12), hours - 1);
            Check.same("again()", x.again(), hours);
            Check.same("the hours", x.value(12), hours);
        }
        x.undo();
        Check.same("the hours after undo()", x.value(12), 19);
        x.parse();
        Check.same("the hours after parse()", x.value(12), 0);
    }

    private static void p8IsUndoable() {
        Clock x = over("100;1800r0;1800r9;10@700;+50;");
        Check.undoable("again()", x, c -> c.again());
        x.again();
        x.finish();
        Check.undoable("again() once more", x, c -> c.again());
    }

    // ---- promise 9

    private static void p9NumberOfAnElement() {
        Check.numbersBelow("element of one", Check.hour("1;+1;+1;"), 1, (c, e) -> c.element(e, 0));
        Check.numbersBelow("element of twelve", Check.hour(TWELVE), 12, (c, e) -> c.element(e, 6));
    }

    private static void p9WhatFrom0To6() {
        Check.argumentFrom("element, what", Check.hour("1;"), 0, 6, (c, what) -> c.element(0, what));
    }

    private static void p9IndexComesBeforeArgument() {
        Clock x = Check.hour("1;");
        int[] wrong = {-1, 7};
        for (int what : wrong) {
            Check.failsIndex("element(1, " + what + ")", x, c -> c.element(1, what));
            Check.failsIndex("element(-1, " + what + ")", x, c -> c.element(-1, what));
            Check.failsArgument("element(0, " + what + ")", x, c -> c.element(0, what));
        }
    }

    private static void p9State() {
        Clock x = Check.hour("10;10;10;");
        Check.same("waits", x.element(0, 3), 0);
        x.pass(1);
        Check.same("on the air after a second", x.element(0, 3), 1);
        x.pass(8);
        Check.same("on the air in its last second", x.element(0, 3), 1);
        x.pass(1);
        Check.same("done", x.element(0, 3), 2);
        Check.same("the next one waits", x.element(1, 3), 0);
        x.drop(1);
        Check.same("dropped", x.element(1, 3), 3);
        x.finish();
        Check.sameRow("over", e -> x.element(e, 3), 2, 3, 2);
    }

    private static void p9BeginIsNoneIfItHasNotBegun() {
        Clock x = Check.hour("10;20;30;");
        Check.sameRow("nothing has begun", e -> x.element(e, 4), -1, -1, -1);
        x.pass(10);
        Check.sameRow("one has begun, the next one not", e -> x.element(e, 4), 0, -1, -1);
        x.pass(1);
        Check.sameRow("the next one has", e -> x.element(e, 4), 0, 10, -1);
        x.drop(2);
        x.finish();
        Check.sameRow("the dropped one has not", e -> x.element(e, 4), 0, 10, -1);
    }

    private static void p9LatenessIsNoneFor() {
        Clock x = Check.hour("10r9;5@10;5@10;3@21;9@22;7@1000;");
        Check.sameRow("none has begun", e -> x.element(e, 5), -1, -1, -1, -1, -1, -1);
        x.drop(4);
        x.pass(30);
        Check.sameRow("floating, in time, late, in time, dropped, waiting", e -> x.element(e, 5), -1, 0, 5, 0, -1, -1);
        x.finish();
        Check.sameRow("over", e -> x.element(e, 5), -1, 0, 5, 0, -1, 0);
        Clock y = Check.hour("1@0;1@0;");
        y.stretch(0, 1800);
        y.stretch(0, 1799);
        y.finish();
        Check.same("an hour late", y.element(1, 5), 3600);
    }

    private static void p9Section() {
        Clock x = Check.hour("1;2;3@500;4;");
        Check.sameRow("up to the fixed one", e -> x.element(e, 6), 1, 1, 0, 0);
        x.pass(1);
        Check.sameRow("not what is done", e -> x.element(e, 6), 0, 1, 0, 0);
        x.pass(1);
        Check.sameRow("not what is on the air", e -> x.element(e, 6), 0, 0, 0, 0);
        x.drop(2);
        Check.sameRow("past the dropped fixed one", e -> x.element(e, 6), 0, 0, 0, 1);
        x.finish();
        Check.sameRow("when it is over", e -> x.element(e, 6), 0, 0, 0, 0);
        Clock y = Check.hour("1@5;2;3;");
        Check.sameRow("empty, a fixed one is the first", e -> y.element(e, 6), 0, 0, 0);
        y.pass(6);
        Check.sameRow("behind it", e -> y.element(e, 6), 0, 1, 1);
        Clock z = Check.hour(TWELVE);
        Check.sameRow("all twelve", e -> z.element(e, 6), 1, 1, 1, 1, 1, 1, 1, 1, 1, 1, 1, 1);
    }

    // ---- promise 10

    private static void p10NumberOfAFiller() {
        Check.numbersBelow("filler of one", Check.hour("1;1;+1;"), 1, (c, f) -> c.filler(f, 0));
        Check.numbersBelow("filler of ten", Check.hour(TEN), 10, (c, f) -> c.filler(f, 2));
    }

    private static void p10WhatFrom0To2() {
        Check.argumentFrom("filler, what", Check.hour("+1;"), 0, 2, (c, what) -> c.filler(0, what));
    }

    private static void p10IndexComesBeforeArgument() {
        Clock x = Check.hour("+1;");
        int[] wrong = {-1, 3};
        for (int what : wrong) {
            Check.failsIndex("filler(1, " + what + ")", x, c -> c.filler(1, what));
            Check.failsIndex("filler(-1, " + what + ")", x, c -> c.filler(-1, what));
            Check.failsArgument("filler(0, " + what + ")", x, c -> c.filler(0, what));
        }
    }

    private static void p10StateAndBegin() {
        Clock x = Check.hour("5;10@20;+15;+14;+1;");
        x.pass(5);
        Check.sameRow("waiting", f -> x.filler(f, 1), 0, 0, 0);
        Check.sameRow("not begun", f -> x.filler(f, 2), -1, -1, -1);
        x.pass(14);
        Check.sameRow("on the air in its last but one second", f -> x.filler(f, 1), 1, 0, 0);
        Check.sameRow("begun at 5", f -> x.filler(f, 2), 5, -1, -1);
        x.pass(1);
        Check.sameRow("done", f -> x.filler(f, 1), 2, 0, 0);
        x.finish();
        Check.sameRow("all done", f -> x.filler(f, 1), 2, 2, 2);
        Check.sameRow("their begins", f -> x.filler(f, 2), 5, 30, 44);
        Check.sameRow("their lengths", f -> x.filler(f, 0), 15, 14, 1);
    }

    // ---- promise 11

    private static void p11WhatFrom0To13() {
        Check.argumentFrom("value", new Clock(), 0, 13, (c, what) -> c.value(what));
        Check.argumentFrom("value when it is over", over("5;"), 0, 13, (c, what) -> c.value(what));
    }

    private static void p11SecondsOfSilenceThatHavePassed() {
        Clock x = Check.hour("10;+5;10@20;");
        x.pass(15);
        Check.same("none yet", x.value(7), 0);
        x.pass(1);
        Check.same("one", x.value(7), 1);
        x.pass(4);
        Check.same("all of the gap", x.value(7), 5);
        x.pass(10);
        Check.same("none while an element is on the air", x.value(7), 5);
        x.finish();
        Check.same("up to the end", x.value(7), 5 + 3570);
        Check.same("an hour of silence", over("").value(7), 3600);
    }

    private static void p11Goal() {
        Clock x = Check.hour("5@0;5@3599;5@10;");
        Check.same("0", x.value(8), 0);
        x.drop(0);
        Check.same("3599", x.value(8), 3599);
        x.drop(1);
        Check.same("10", x.value(8), 10);
        x.pass(10);
        Check.same("10, it has not begun", x.value(8), 10);
        x.pass(1);
        Check.same("3600 once it is on the air", x.value(8), 3600);
        Check.same("3600 without elements", new Clock().value(8), 3600);
        Check.same("3600 with floating ones alone", Check.hour(TWELVE).value(8), 3600);
    }

    private static void p11LatenessOfTheHour() {
        Clock x = Check.hour("2@3599;");
        Check.same("not over", x.value(9), -1);
        x.pass(3600);
        x.pass(1);
        Check.same("its end has come, but it is not found to be over", x.value(9), -1);
        Check.same("not over", x.value(3), 0);
        Check.same("it is found now", x.pass(1), 0);
        Check.same("a second late", x.value(9), 1);
        Check.same("in time", over("").value(9), 0);
    }

    private static void p11GreatestLateness() {
        Clock x = Check.hour("10@0;10@4;10@19;10@3599;");
        Check.same("none has begun", x.value(10), 0);
        x.pass(10);
        Check.same("in time", x.value(10), 0);
        x.pass(10);
        Check.same("6 seconds late", x.value(10), 6);
        x.pass(10);
        Check.same("1 second late is not greater", x.value(10), 6);
        x.finish();
        Check.same("9 seconds of the hour do not count", x.value(10), 6);
        Check.same("the hour's own", x.value(9), 9);
        Check.same("floating ones alone", over(TWELVE).value(10), 0);
    }

    private static void p11SecondsForWhichItGoesOn() {
        Clock x = Check.hour("10;10@30;+15;");
        Check.same("nothing is on the air at 0", x.value(13), 0);
        x.pass(1);
        Check.same("an element", x.value(13), 9);
        x.pass(8);
        Check.same("its last second", x.value(13), 1);
        x.pass(1);
        Check.same("nothing", x.value(13), 0);
        x.pass(1);
        Check.same("a filler", x.value(13), 14);
        x.pass(15);
        Check.same("a silence", x.value(13), 4);
        x.pass(13);
        Check.same("the fixed one", x.value(13), 1);
        x.pass(2);
        Check.same("a silence up to the end", x.value(13), 3559);
        x.finish();
        Check.same("over", x.value(13), 0);
    }

    private static void p11FillersThatWait() {
        Clock x = Check.hour(TEN);
        Check.same("ten", x.value(6), 10);
        x.pass(1);
        Check.same("one is on the air", x.value(6), 9);
        x.pass(88);
        Check.same("nine are done, one is on the air", x.value(6), 0);
        Check.same("ten fillers", x.value(1), 10);
    }

    // ---- promise 12

    private static void p12NumberOfAnEntry() {
        Check.numbersBelow("entry of none", Check.hour("1;"), 0, (c, n) -> c.entry(n, 0));
        Clock x = Check.hour("1;2;");
        x.pass(1);
        Check.numbersBelow("entry of one", x, 1, (c, n) -> c.entry(n, 0));
        x.finish();
        Check.numbersBelow("entry of three", x, 3, (c, n) -> c.entry(n, 2));
    }

    private static void p12WhatFrom0To2() {
        Check.argumentFrom("entry, what", over(""), 0, 2, (c, what) -> c.entry(0, what));
    }

    private static void p12IndexComesBeforeArgument() {
        Clock x = over("");
        int[] wrong = {-1, 3};
        for (int what : wrong) {
            Check.failsIndex("entry(1, " + what + ")", x, c -> c.entry(1, what));
            Check.failsIndex("entry(-1, " + what + ")", x, c -> c.entry(-1, what));
            Check.failsArgument("entry(0, " + what + ")", x, c -> c.entry(0, what));
        }
    }

    private static void p12KindsAndNumbers() {
        Clock x = Check.hour("5;5;50r0;9@20;+8;");
        x.drop(1);
        x.finish();
        int[][] due = {{0, 3, 1}, {0, 3, 2}, {0, 0, 0}, {5, 1, 0}, {13, 2, -1}, {20, 0, 3}, {29, 2, -1}};
        Check.same("the entries", x.value(11), due.length);
        for (int n = 0; n < due.length; n++) {
            int[] row = due[n];
            int entry = n;
            Check.sameRow("entry " + n, what -> x.entry(entry, what), row);
        }
    }

    /** Each of 12 elements behind a silence of its own, 10 fillers, and a silence at the end: 35. */
    private static void p12AsManyAsThereCanBe() {
        Clock x = new Clock();
        for (int e = 0; e < 12; e++) {
            x.addElement(1, e * 2 + 1, 5);
        }
        x.pass(24);
        for (int f = 0; f < 10; f++) {
            x.addFiller(1);
        }
        x.finish();
        Check.same("12 silences, 12 elements, 10 fillers, a silence", x.value(11), 35);
        Check.numbersBelow("entry of 35", x, 35, (c, n) -> c.entry(n, 0));
        Check.sameRow("the last entry", what -> x.entry(34, what), 34, 2, -1);
        Check.sameRow("the last but one", what -> x.entry(33, what), 33, 1, 9);
    }
}
