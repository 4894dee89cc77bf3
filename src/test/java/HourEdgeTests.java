/** The edges of the promises 1 to 6, a method for each sentence of the document that names one. */
public final class HourEdgeTests {
    private static final String TWELVE = "1r9;1r9;1r9;1r9;1r9;1r9;1r9;1r9;1r9;1r9;1r9;1r9;";
    private static final String TEN = "+9;+9;+9;+9;+9;+9;+9;+9;+9;+9;";

    public static void main(String[] args) {
        p1HasNothingAtAll();
        p1IsAtTheSecond0();
        p1HasNothingToUndoAndNoText();
        p1SharesNothingWithAnotherObject();
        p2LengthFrom1To1800();
        p2TimeFrom0To3599OrNone();
        p2RankFrom0To9();
        p2AddsOneThatWaitsBehindTheOthers();
        p2TwelveAtMost();
        p2DroppedAndDoneOnesCount();
        p2NotWhenTheHourIsOver();
        p2ArgumentComesBeforeState();
        p2IsUndoable();
        p3LengthFrom1To900();
        p3AddsOneThatWaits();
        p3TenAtMost();
        p3NotWhenTheHourIsOver();
        p3ArgumentComesBeforeState();
        p3IsUndoable();
        p4NumberOfAnElement();
        p4ByFromMinus1800To1800();
        p4LengthFrom1To3600();
        p4LengthOnTheAirFrom1To3600();
        p4NotWhenDoneOrDropped();
        p4OnTheAirNotAheadOfThePresentSecond();
        p4EndingAtThisSecondIsDoneAtOnce();
        p4WhatIsDoneAtOnceIsFollowedAtThisSecond();
        p4TheFirstOfSeveralExceptions();
        p4IsUndoable();
        p5NumberOfAnElement();
        p5OnlyOneThatWaits();
        p5ReturnsHowManyWaitThen();
        p5FixedOrFloatingOfAnyRank();
        p5IndexComesBeforeState();
        p5IsUndoable();
        p6SecondsFrom1To3600();
        p6WhatEndsWithTheLastSecondIsDone();
        p6NothingBeginsBeforeTheNextCall();
        p6IsNotFoundToBeOverBeforeTheNextCall();
        p6NoMoreSecondsWhenItIsOver();
        p6ManySecondsAreAsOneByOne();
        p6IsUndoable();
        Check.end("HourEdgeTests");
    }

    private static Clock over(String text) {
        Clock x = Check.hour(text);
        x.finish();
        return x;
    }

    // ---- promise 1

    private static void p1HasNothingAtAll() {
        Clock x = new Clock();
        Check.same("new: the elements", x.value(0), 0);
        Check.same("new: the fillers", x.value(1), 0);
        Check.same("new: the log", x.value(11), 0);
        Check.numbersBelow("new: element", x, 0, (c, n) -> c.element(n, 0));
        Check.numbersBelow("new: filler", x, 0, (c, n) -> c.filler(n, 0));
        Check.numbersBelow("new: entry", x, 0, (c, n) -> c.entry(n, 0));
        Check.same("new: drops()", x.drops(), 0);
        Check.same("new: bestDrop()", x.bestDrop(), -1);
        Check.same("new: choice(3600)", x.choice(3600), 0);
        Check.same("new: nextFull(0)", x.nextFull(0), -1);
    }

    private static void p1IsAtTheSecond0() {
        Clock x = new Clock();
        Check.same("new: the second", x.value(2), 0);
        Check.same("new: not over", x.value(3), 0);
        Check.same("new: no lateness of the hour", x.value(9), -1);
        Check.same("new: nothing is on the air", x.value(13), 0);
        Check.same("new: silence()", x.silence(), 3600);
        Check.same("new: endOfHour()", x.endOfHour(), 3600);
        Check.sameDouble("new: sounding()", x.sounding(), 1.0);
    }

    private static void p1HasNothingToUndoAndNoText() {
        Clock x = new Clock();
        Check.failsState("new: undo()", x, c -> c.undo());
        Check.failsState("new: again()", x, c -> c.again());
        Check.same("new: clearText()", x.clearText(), 0);
        Check.same("new: the first byte", x.append(0), 1);
    }

    private static void p1SharesNothingWithAnotherObject() {
        Clock x = new Clock();
        Clock y = new Clock();
        String before = Check.view(y.twin());
        x.addElement(10, 20, 3);
        x.addFiller(5);
        Check.type(x, "7;+7;");
        x.finish();
        x.again();
        x.pass(3);
        Check.sameText("the other object", Check.view(y.twin()), before);
        Check.same("the other object's text", y.clearText(), 0);
        Check.failsState("the other object's undo()", y, c -> c.undo());
        Check.same("the first one goes on", x.value(2), 3);
    }

    // ---- promise 2

    private static void p2LengthFrom1To1800() {
        Check.argumentFrom("addElement, length", new Clock(), 1, 1800, (c, length) -> c.addElement(length, -1, 5));
        Clock x = new Clock();
        x.addElement(1, -1, 5);
        x.addElement(1800, -1, 5);
        Check.same("a length of 1", x.element(0, 0), 1);
        Check.same("a length of 1800", x.element(1, 0), 1800);
    }

    private static void p2TimeFrom0To3599OrNone() {
        Check.argumentFrom("addElement, time", new Clock(), -1, 3599, (c, time) -> c.addElement(1, time, 5));
        Clock x = new Clock();
        x.addElement(1, Clock.NONE, 5);
        x.addElement(1, 0, 5);
        x.addElement(1, 3599, 5);
        Check.sameRow("the times", e -> x.element(e, 1), -1, 0, 3599);
        Check.same("0 is a fixed time", x.value(8), 0);
        Check.same("a fixed one is not in the section", x.element(1, 6), 0);
        Check.same("NONE is floating", x.element(0, 6), 1);
    }

    private static void p2RankFrom0To9() {
        Check.argumentFrom("addElement, rank", new Clock(), 0, 9, (c, rank) -> c.addElement(1, -1, rank));
        Clock x = new Clock();
        x.addElement(1, -1, 0);
        x.addElement(1, 5, 9);
        Check.sameRow("the ranks", e -> x.element(e, 2), 0, 9);
    }

    private static void p2AddsOneThatWaitsBehindTheOthers() {
        Clock x = new Clock();
        for (int e = 0; e < 12; e++) {
            Check.same("addElement number " + e, x.addElement(100 + e, -1, 9), e);
            Check.same("the elements then", x.value(0), e + 1);
            Check.same("those that wait then", x.value(4), e + 1);
        }
        for (int e = 0; e < 12; e++) {
            Check.same("element " + e, x.element(e, 0), 100 + e);
            Check.same("element " + e + " waits", x.element(e, 3), 0);
            Check.same("element " + e + " has not begun", x.element(e, 4), -1);
            Check.same("element " + e + " is not late", x.element(e, 5), -1);
        }
    }

    private static void p2TwelveAtMost() {
        Clock x = Check.hour(TWELVE);
        Check.failsState("a 13th element", x, c -> c.addElement(1, -1, 5));
        Check.failsState("a fixed 13th element", x, c -> c.addElement(1800, 3599, 9));
        x.undo();
        for (int e = 0; e < 11; e++) {
            x.addElement(1, -1, 5);
        }
        Check.same("a 12th element", x.addElement(1, -1, 5), 11);
        Check.failsState("again a 13th element", x, c -> c.addElement(1, -1, 5));
    }

    private static void p2DroppedAndDoneOnesCount() {
        Clock x = Check.hour(TWELVE);
        x.drop(11);
        Check.failsState("a 13th element, one is dropped", x, c -> c.addElement(1, -1, 5));
        x.pass(3600);
        Check.failsState("a 13th element, the others are done", x, c -> c.addElement(1, -1, 5));
    }

    private static void p2NotWhenTheHourIsOver() {
        Clock x = new Clock();
        x.pass(3600);
        Check.same("at 3600, not found to be over", x.twin().addElement(1, -1, 5), 0);
        x.pass(1);
        Check.failsState("addElement when it is over", x, c -> c.addElement(1, -1, 5));
        x.again();
        Check.same("addElement in the next hour", x.addElement(1, -1, 5), 0);
    }

    private static void p2ArgumentComesBeforeState() {
        Clock[] refusing = {Check.hour(TWELVE), over(""), over(TWELVE)};
        for (Clock x : refusing) {
            Check.failsState("addElement, refused", x, c -> c.addElement(1, -1, 0));
            Check.failsArgument("addElement, refused, length 0", x, c -> c.addElement(0, -1, 0));
            Check.failsArgument("addElement, refused, length 1801", x, c -> c.addElement(1801, -1, 0));
            Check.failsArgument("addElement, refused, time -2", x, c -> c.addElement(1, -2, 0));
            Check.failsArgument("addElement, refused, time 3600", x, c -> c.addElement(1, 3600, 0));
            Check.failsArgument("addElement, refused, rank -1", x, c -> c.addElement(1, -1, -1));
            Check.failsArgument("addElement, refused, rank 10", x, c -> c.addElement(1, -1, 10));
        }
        Check.failsArgument("addElement, all wrong", new Clock(), c -> c.addElement(0, -2, 10));
    }

    private static void p2IsUndoable() {
        Check.undoable("the first addElement", new Clock(), c -> c.addElement(1800, 3599, 9));
        Clock x = Check.hour("1;2;3;4;5;6;7;8;9;10;11;+5;");
        x.pass(2);
        Check.undoable("the 12th addElement, on the way", x, c -> c.addElement(7, -1, 0));
    }

    // ---- promise 3

    private static void p3LengthFrom1To900() {
        Check.argumentFrom("addFiller", new Clock(), 1, 900, (c, length) -> c.addFiller(length));
        Clock x = new Clock();
        x.addFiller(1);
        x.addFiller(900);
        Check.sameRow("the lengths", f -> x.filler(f, 0), 1, 900);
    }

    private static void p3AddsOneThatWaits() {
        Clock x = new Clock();
        for (int f = 0; f < 10; f++) {
            Check.same("addFiller number " + f, x.addFiller(f + 20), f);
            Check.same("the fillers then", x.value(1), f + 1);
            Check.same("those that wait then", x.value(6), f + 1);
        }
        for (int f = 0; f < 10; f++) {
            Check.same("filler " + f, x.filler(f, 0), f + 20);
            Check.same("filler " + f + " waits", x.filler(f, 1), 0);
            Check.same("filler " + f + " has not begun", x.filler(f, 2), -1);
        }
    }

    private static void p3TenAtMost() {
        Clock x = Check.hour(TEN);
        Check.failsState("an 11th filler", x, c -> c.addFiller(1));
        x.pass(3600);
        Check.failsState("an 11th filler, the others are done", x, c -> c.addFiller(900));
        Clock y = Check.hour("+1;+1;+1;+1;+1;+1;+1;+1;+1;");
        Check.same("a tenth filler", y.addFiller(1), 9);
        Check.failsState("an 11th filler behind it", y, c -> c.addFiller(1));
    }

    private static void p3NotWhenTheHourIsOver() {
        Clock x = new Clock();
        x.pass(3600);
        Check.same("at 3600, not found to be over", x.twin().addFiller(1), 0);
        x.pass(1);
        Check.failsState("addFiller when it is over", x, c -> c.addFiller(1));
        x.again();
        Check.same("addFiller in the next hour", x.addFiller(1), 0);
    }

    private static void p3ArgumentComesBeforeState() {
        Clock[] refusing = {Check.hour(TEN), over(""), over(TEN)};
        for (Clock x : refusing) {
            Check.failsState("addFiller, refused", x, c -> c.addFiller(1));
            Check.failsArgument("addFiller, refused, length 0", x, c -> c.addFiller(0));
            Check.failsArgument("addFiller, refused, length 901", x, c -> c.addFiller(901));
        }
    }

    private static void p3IsUndoable() {
        Check.undoable("the first addFiller", new Clock(), c -> c.addFiller(900));
        Clock x = Check.hour("+1;+2;+3;+4;+5;+6;+7;+8;+9;5;");
        x.pass(7);
        Check.undoable("the tenth addFiller, on the way", x, c -> c.addFiller(1));
    }

    // ---- promise 4

    private static void p4NumberOfAnElement() {
        Check.numbersBelow("stretch of none", new Clock(), 0, (c, e) -> c.stretch(e, 0));
        Check.numbersBelow("stretch of one of three", Check.hour("1;2@5;3;"), 3, (c, e) -> c.stretch(e, 1));
        Check.numbersBelow("stretch of one of twelve", Check.hour(TWELVE), 12, (c, e) -> c.stretch(e, 1));
    }

    private static void p4ByFromMinus1800To1800() {
        Clock x = Check.hour("1800;");
        Check.same("stretch by 1800", x.twin().stretch(0, 1800), 3600);
        Check.failsArgument("stretch by 1801", x, c -> c.stretch(0, 1801));
        Check.failsArgument("stretch by the greatest int", x, c -> c.stretch(0, Integer.MAX_VALUE));
        x.stretch(0, 1);
        Check.same("stretch by -1800", x.twin().stretch(0, -1800), 1);
        Check.same("stretch by 0", x.twin().stretch(0, 0), 1801);
        x.stretch(0, 1700);
        Check.failsArgument("stretch by -1801", x, c -> c.stretch(0, -1801));
        Check.failsArgument("stretch by the least int", x, c -> c.stretch(0, Integer.MIN_VALUE));
    }

    private static void p4LengthFrom1To3600() {
        Clock x = Check.hour("1800;2;1@3000;");
        Check.failsState("down to 0", x, c -> c.stretch(0, -1800));
        Check.same("down to 1", x.twin().stretch(0, -1799), 1);
        Check.same("from 2 down to 1", x.twin().stretch(1, -1), 1);
        Check.failsState("from 2 down to 0", x, c -> c.stretch(1, -2));
        Check.failsState("from 1 down to 0, a fixed one", x, c -> c.stretch(2, -1));
        Check.failsState("from 1 far below 0", x, c -> c.stretch(2, -1800));
        x.stretch(0, 1);
        Check.same("up to 3600", x.twin().stretch(0, 1799), 3600);
        Check.failsState("up to 3601", x, c -> c.stretch(0, 1800));
        x.stretch(0, 1799);
        Check.same("by 0 at 3600", x.twin().stretch(0, 0), 3600);
        Check.failsState("from 3600 to 3601", x, c -> c.stretch(0, 1));
        Check.same("it stays at 3600", x.element(0, 0), 3600);
    }

    private static void p4LengthOnTheAirFrom1To3600() {
        Clock x = Check.hour("1800r9;");
        x.pass(1);
        Check.failsState("on the air, down to 0", x, c -> c.stretch(0, -1800));
        Check.same("on the air, down to 1", x.twin().stretch(0, -1799), 1);
        x.stretch(0, 1799);
        Check.same("on the air, up to 3600", x.twin().stretch(0, 1), 3600);
        Check.failsState("on the air, up to 3601", x, c -> c.stretch(0, 2));
        x.stretch(0, 1);
        Check.same("on the air up to the second 3600", x.value(13), 3599);
    }

    private static void p4NotWhenDoneOrDropped() {
        Clock x = Check.hour("10;10;1800r0;10;10@1800;");
        x.drop(1);
        Check.failsState("dropped by hand", x, c -> c.stretch(1, 0));
        x.pass(10);
        Check.failsState("done", x, c -> c.stretch(0, 0));
        Check.failsState("done, longer", x, c -> c.stretch(0, 5));
        Check.failsState("dropped for time", x, c -> c.stretch(2, 1));
        Check.same("one that waits", x.twin().stretch(3, 1), 11);
        x.finish();
        Check.failsState("done, in an hour that is over", x, c -> c.stretch(4, 0));
        x.again();
        Check.same("waits again", x.twin().stretch(1, 0), 10);
    }

    private static void p4OnTheAirNotAheadOfThePresentSecond() {
        Clock x = Check.hour("5;20@0;");
        x.pass(15);
        Check.same("it began at 0, the one ahead of it was dropped", x.element(1, 4), 0);
        Check.failsState("an end at 14 of 15", x, c -> c.stretch(1, -6));
        Check.failsState("an end at 1 of 15", x, c -> c.stretch(1, -19));
        Check.same("an end at 15 of 15", x.twin().stretch(1, -5), 15);
        Check.same("an end at 16 of 15", x.twin().stretch(1, -4), 16);
        Clock y = Check.hour("7r9;20@0;");
        y.pass(15);
        Check.failsState("it began at 7: an end at 14 of 15", y, c -> c.stretch(1, -13));
        Check.same("it began at 7: an end at 15 of 15", y.twin().stretch(1, -12), 8);
    }

    private static void p4EndingAtThisSecondIsDoneAtOnce() {
        Clock x = Check.hour("20r9;30r9;");
        x.pass(12);
        Clock later = x.twin();
        later.stretch(0, -7);
        Check.same("a second later it is still on the air", later.element(0, 3), 1);
        Check.same("a second later there is 1 left", later.value(13), 1);
        Check.same("stretch to this second", x.stretch(0, -8), 12);
        Check.same("it is done", x.element(0, 3), 2);
        Check.same("nothing is on the air", x.value(13), 0);
        Check.same("no second has passed", x.value(2), 12);
        Check.same("the next one has not begun", x.element(1, 3), 0);
        Check.same("nothing was logged", x.value(11), 1);
        Check.same("its length", x.element(0, 0), 12);
        Check.same("it began as it was", x.element(0, 4), 0);
    }

    private static void p4WhatIsDoneAtOnceIsFollowedAtThisSecond() {
        Clock x = Check.hour("20r9;30r9;");
        x.pass(12);
        x.stretch(0, -8);
        Check.same("the next one would begin now", x.beginOf(1), 12);
        x.pass(1);
        Check.same("the next one began then", x.element(1, 4), 12);
        Clock y = Check.hour("1800@3000;");
        y.pass(3600);
        y.stretch(0, -1200);
        Check.same("at 3600 it is done, the hour is not over", y.value(3), 0);
        Check.same("the next call finds it over", y.pass(5), 0);
        Check.same("the hour is in time", y.value(9), 0);
    }

    private static void p4TheFirstOfSeveralExceptions() {
        Clock x = Check.hour("10;10;");
        x.drop(1);
        x.pass(10);
        Check.failsIndex("no such element, by wrong", x, c -> c.stretch(2, 1801));
        Check.failsIndex("no such element, by wrong", x, c -> c.stretch(-1, -1801));
        Check.failsArgument("dropped, by wrong", x, c -> c.stretch(1, 1801));
        Check.failsArgument("done, by wrong", x, c -> c.stretch(0, -1801));
        Check.failsState("done, length wrong", x, c -> c.stretch(0, -10));
    }

    private static void p4IsUndoable() {
        Clock x = Check.hour("20r9;30r9;");
        Check.undoable("stretch by 0", x, c -> c.stretch(1, 0));
        x.pass(12);
        Check.undoable("stretch of one that waits", x, c -> c.stretch(1, -29));
        Check.undoable("stretch of the one on the air", x, c -> c.stretch(0, 1800));
        Check.undoable("stretch by 0 of the one on the air", x, c -> c.stretch(0, 0));
        Check.undoable("stretch to this second", x, c -> c.stretch(0, -8));
    }

    // ---- promise 5

    private static void p5NumberOfAnElement() {
        Check.numbersBelow("drop of none", new Clock(), 0, (c, e) -> c.drop(e));
        Check.numbersBelow("drop of one of three", Check.hour("1;2@5;3;"), 3, (c, e) -> c.drop(e));
        Check.numbersBelow("drop of one of twelve", Check.hour(TWELVE), 12, (c, e) -> c.drop(e));
    }

    private static void p5OnlyOneThatWaits() {
        Clock x = Check.hour("10;10r0;10@15;");
        x.pass(5);
        Check.failsState("drop of the one on the air", x, c -> c.drop(0));
        Check.failsState("drop of one that is dropped for time", x, c -> c.drop(1));
        x.pass(5);
        Check.failsState("drop of one that is done", x, c -> c.drop(0));
        x.drop(2);
        Check.failsState("drop of one that is dropped by hand", x, c -> c.drop(2));
        x.finish();
        Check.failsState("drop when the hour is over", x, c -> c.drop(0));
        x.again();
        Check.same("drop in the next hour", x.drop(0), 2);
    }

    private static void p5ReturnsHowManyWaitThen() {
        Clock x = Check.hour(TWELVE);
        for (int e = 11; e >= 0; e--) {
            Check.same("drop(" + e + ")", x.drop(e), e);
            Check.same("those that wait", x.value(4), e);
            Check.same("those that are dropped", x.value(5), 12 - e);
        }
        Check.same("twelve entries", x.value(11), 12);
        Check.same("nothing is left but silence", x.silence(), 3600);
        Clock y = Check.hour("10;10;10;");
        y.pass(1);
        Check.same("the one on the air does not wait", y.drop(1), 1);
    }

    private static void p5FixedOrFloatingOfAnyRank() {
        Clock x = Check.hour("10r9;10r0;10@0r9;10@3599r0;");
        for (int e = 0; e < 4; e++) {
            Check.same("drop(" + e + ")", x.drop(e), 3 - e);
            Check.same("element " + e + " is dropped", x.element(e, 3), 3);
            Check.same("element " + e + " has not begun", x.element(e, 4), -1);
            Check.same("element " + e + " is not late", x.element(e, 5), -1);
            Check.same("entry " + e + " is of this second", x.entry(e, 0), 0);
            Check.same("entry " + e + " tells of a drop", x.entry(e, 1), 3);
            Check.same("entry " + e + " names the element", x.entry(e, 2), e);
        }
        Check.same("the goal without them", x.value(8), 3600);
    }

    private static void p5IndexComesBeforeState() {
        Clock x = Check.hour("10;");
        x.finish();
        Check.failsIndex("drop of no element when it is over", x, c -> c.drop(1));
        Check.failsState("drop of an element when it is over", x, c -> c.drop(0));
    }

    private static void p5IsUndoable() {
        Clock x = Check.hour("10r9;20@100;30r9;");
        Check.undoable("drop of a floating one", x, c -> c.drop(0));
        Check.undoable("drop of a fixed one", x, c -> c.drop(1));
        x.pass(50);
        Check.undoable("drop of the last one, in a silence", x, c -> c.drop(2));
    }

    // ---- promise 6

    private static void p6SecondsFrom1To3600() {
        Check.argumentFrom("pass", Check.hour("10;"), 1, 3600, (c, seconds) -> c.pass(seconds));
        Check.same("pass(1)", new Clock().pass(1), 1);
        Check.same("pass(3600)", new Clock().pass(3600), 3600);
        Clock x = over("");
        Check.argumentFrom("pass when it is over", x, 1, 3600, (c, seconds) -> c.pass(seconds));
    }

    private static void p6WhatEndsWithTheLastSecondIsDone() {
        Clock x = Check.hour("10;");
        x.pass(9);
        Check.same("after 9 of 10 it is on the air", x.element(0, 3), 1);
        Check.same("for a second more", x.value(13), 1);
        x.pass(1);
        Check.same("after 10 of 10 it is done", x.element(0, 3), 2);
        Check.same("nothing is on the air", x.value(13), 0);
        Clock y = Check.hour("1;");
        y.pass(1);
        Check.same("a second of 1", y.element(0, 3), 2);
        Clock z = Check.hour("+10;");
        z.pass(10);
        Check.same("a filler, too", z.filler(0, 1), 2);
        Check.same("a silence has not begun", z.value(11), 1);
    }

    private static void p6NothingBeginsBeforeTheNextCall() {
        Clock x = Check.hour("10;20;5r0;10@30;");
        x.pass(10);
        Check.same("the next one waits", x.element(1, 3), 0);
        Check.same("the log has what was found at 0", x.value(11), 2);
        x.addFiller(5);
        x.stretch(1, -3);
        Check.same("other calls begin nothing", x.value(11), 2);
        x.pass(1);
        Check.same("the next pass begins it", x.element(1, 4), 10);
        Clock y = Check.hour("10;20r3;");
        y.pass(10);
        y.addElement(10, 15, 5);
        Check.same("nothing is dropped before the next call", y.value(5), 0);
        y.pass(1);
        Check.same("it is dropped in the next call", y.value(5), 1);
    }

    private static void p6IsNotFoundToBeOverBeforeTheNextCall() {
        Clock x = Check.hour("1800r9;1800r9;");
        Check.same("pass(3600)", x.pass(3600), 3600);
        Check.same("not over", x.value(3), 0);
        Check.same("no lateness", x.value(9), -1);
        Check.same("endOfHour() tells it", x.endOfHour(), 3600);
        Check.same("pass(3600) of nothing", x.pass(3600), 0);
        Check.same("over", x.value(3), 1);
        Check.same("lateness 0", x.value(9), 0);
        Check.same("still at 3600", x.value(2), 3600);
    }

    private static void p6NoMoreSecondsWhenItIsOver() {
        Clock x = new Clock();
        x.pass(3599);
        Check.same("one second is left", x.twin().pass(3600), 1);
        Check.same("one second, asked for one", x.twin().pass(1), 1);
        x.pass(3600);
        Check.same("over", x.value(3), 1);
        Check.same("no more", x.pass(1), 0);
        Check.same("the second", x.value(2), 3600);
        Clock y = Check.hour("1800@3599;");
        y.pass(3600);
        Check.same("an element that runs over", y.pass(3600), 1799);
        Check.same("over at 5399", y.value(9), 1799);
    }

    private static void p6ManySecondsAreAsOneByOne() {
        String[] texts = {"3r9;5;4r0;2@10;+6;+3;7@20;2;", "1;1;1@0;1r0;9@2;4r9;+1;+1;1@30;", "+2;+5;5@12;5@13;5@14;5r8;", ""};
        for (String text : texts) {
            Clock one = Check.hour(text);
            for (int second = 1; second <= 45; second++) {
                Check.same("pass(1)", one.pass(1), 1);
                Clock many = Check.hour(text);
                Check.same("pass(" + second + ")", many.pass(second), second);
                Check.sameText(text + ": " + second + " seconds", Check.view(one.twin()), Check.view(many));
            }
        }
    }

    private static void p6IsUndoable() {
        Clock x = Check.hour("10r9;20r0;5@15;+3;");
        Check.undoable("pass(1)", x, c -> c.pass(1));
        Check.undoable("pass(3600)", x, c -> c.pass(3600));
        x.finish();
        Check.undoable("pass(1) when it is over", x, c -> c.pass(1));
    }
}
