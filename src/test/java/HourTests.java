/** Promises 1 to 12: the calls that the document puts under "hour". */
public final class HourTests {
    public static void main(String[] args) {
        p1NewObject();
        p2AddElement();
        p2AddElementWrong();
        p3AddFiller();
        p4StretchWaiting();
        p4StretchOnAir();
        p4StretchWrong();
        p5Drop();
        p5DropWrong();
        p6Pass();
        p6PassAtTheEnd();
        p7Finish();
        p8Again();
        p9Element();
        p10Filler();
        p11Value();
        p12Entry();
        goingOnDrops();
        twelveAreDroppedAtOnce();
        goingOnFills();
        goingOnSilence();
        goingOnFixed();
        Check.end("HourTests");
    }

    private static void p1NewObject() {
        Clock x = new Clock();
        int[] due = {0, 0, 0, 0, 0, 0, 0, 0, 3600, -1, 0, 0, 0, 0};
        for (int what = 0; what < due.length; what++) {
            Check.same("new: value(" + what + ")", x.value(what), due[what]);
        }
        Check.same("new: saved", Check.saved(x), 0);
        Check.same("new: endOfHour()", x.endOfHour(), 3600);
        Check.same("new: clearText()", x.clearText(), 0);
        Check.failsState("new: undo()", x, c -> c.undo());
        Clock y = new Clock();
        x.addElement(10, -1, 5);
        Check.same("another object: value(0)", y.value(0), 0);
    }

    private static void p2AddElement() {
        Clock x = new Clock();
        Check.undoable("addElement(1, NONE, 0)", x, c -> c.addElement(1, Clock.NONE, 0));
        Check.same("addElement(1, NONE, 0)", x.addElement(1, -1, 0), 0);
        Check.same("addElement(1800, 3599, 9)", x.addElement(1800, 3599, 9), 1);
        Check.same("addElement(5, 0, 5)", x.addElement(5, 0, 5), 2);
        int[][] due = {{1, -1, 0, 0, -1, -1}, {1800, 3599, 9, 0, -1, -1}, {5, 0, 5, 0, -1, -1}};
        for (int e = 0; e < 3; e++) {
            for (int what = 0; what < 6; what++) {
                Check.same("added: element(" + e + ", " + what + ")", x.element(e, what), due[e][what]);
            }
        }
        x.pass(1);
        Check.same("addElement on the way", x.addElement(7, -1, 3), 3);
        Check.same("added on the way: waits", x.element(3, 3), 0);
        Check.same("added on the way: the others as they were", x.element(0, 3), 2);
        for (int e = 4; e < 12; e++) {
            Check.same("addElement number " + e, x.addElement(1, -1, 9), e);
        }
        Check.failsState("a 13th element", x, c -> c.addElement(1, -1, 9));
        Check.failsArgument("a 13th element that is wrong", x, c -> c.addElement(0, -1, 9));
        Check.same("still 12", x.value(0), 12);
    }

    private static void p2AddElementWrong() {
        Clock x = new Clock();
        int[][] wrong = {{0, 0, 0}, {-1, 0, 0}, {1801, 0, 0}, {1, -2, 0}, {1, 3600, 0}, {1, 0, -1}, {1, 0, 10},
            {Integer.MIN_VALUE, 0, 0}, {Integer.MAX_VALUE, 0, 0}, {1, Integer.MIN_VALUE, 0}, {1, Integer.MAX_VALUE, 0},
            {1, 0, Integer.MIN_VALUE}, {1, 0, Integer.MAX_VALUE}};
        for (int[] w : wrong) {
            Check.failsArgument("addElement(" + w[0] + ", " + w[1] + ", " + w[2] + ")", x, c -> c.addElement(w[0], w[1], w[2]));
        }
        Check.same("passing an empty hour", x.pass(3600), 3600);
        Check.undoable("addElement at 3600, not yet over", x, c -> c.addElement(1, -1, 9));
        x.finish();
        Check.failsState("addElement in an hour that is over", x, c -> c.addElement(1, 0, 0));
        Check.failsArgument("addElement, wrong, in an hour that is over", x, c -> c.addElement(1, 0, 10));
        x.again();
        Check.same("addElement in the next hour", x.addElement(1, 0, 0), 0);
    }

    private static void p3AddFiller() {
        Clock x = new Clock();
        Check.undoable("addFiller(1)", x, c -> c.addFiller(1));
        Check.same("addFiller(1)", x.addFiller(1), 0);
        Check.same("addFiller(900)", x.addFiller(900), 1);
        Check.same("filler(1, 0)", x.filler(1, 0), 900);
        Check.same("filler(1, 1)", x.filler(1, 1), 0);
        Check.same("filler(1, 2)", x.filler(1, 2), -1);
        int[] wrong = {0, -1, 901, Integer.MIN_VALUE, Integer.MAX_VALUE};
        for (int w : wrong) {
            Check.failsArgument("addFiller(" + w + ")", x, c -> c.addFiller(w));
        }
        for (int f = 2; f < 10; f++) {
            Check.same("addFiller number " + f, x.addFiller(f), f);
        }
        Check.failsState("an 11th filler", x, c -> c.addFiller(1));
        Check.failsArgument("an 11th filler that is wrong", x, c -> c.addFiller(0));
        Clock y = new Clock();
        y.finish();
        Check.failsState("addFiller in an hour that is over", y, c -> c.addFiller(1));
        Check.failsArgument("addFiller, wrong, in an hour that is over", y, c -> c.addFiller(901));
    }

    private static void p4StretchWaiting() {
        Clock x = Check.hour("1800;10@3000;");
        Check.undoable("stretch(0, 1800)", x, c -> c.stretch(0, 1800));
        Check.undoable("stretch(0, 0)", x, c -> c.stretch(0, 0));
        Check.same("stretch(0, 1800)", x.stretch(0, 1800), 3600);
        Check.same("its length", x.element(0, 0), 3600);
        Check.failsState("stretch(0, 1) above 3600", x, c -> c.stretch(0, 1));
        Check.same("stretch(0, -1800)", x.stretch(0, -1800), 1800);
        Check.same("stretch(0, -1799)", x.stretch(0, -1799), 1);
        Check.failsState("stretch(0, -1) below 1", x, c -> c.stretch(0, -1));
        Check.same("a fixed one", x.stretch(1, 5), 15);
        Check.same("the other one is as it was", x.element(0, 0), 1);
    }

    private static void p4StretchOnAir() {
        Clock x = Check.hour("100;50r9;");
        x.pass(60);
        Check.undoable("stretch(0, -40) to the present second", x, c -> c.stretch(0, -40));
        Check.failsState("stretch(0, -41), it had ended", x, c -> c.stretch(0, -41));
        Check.failsState("stretch(0, -99), it had ended", x, c -> c.stretch(0, -99));
        Check.same("stretch(0, -39)", x.stretch(0, -39), 61);
        Check.same("a second is left", x.value(13), 1);
        Check.same("it is on the air", x.element(0, 3), 1);
        Check.same("stretch(0, -1)", x.stretch(0, -1), 60);
        Check.same("it is done at once", x.element(0, 3), 2);
        Check.same("nothing is on the air", x.value(13), 0);
        Check.same("the second is as it was", x.value(2), 60);
        Check.same("the log is as it was", x.value(11), 1);
        Check.failsState("it cannot be stretched again", x, c -> c.stretch(0, 1));
        x.pass(1);
        Check.same("the next one began at once", x.element(1, 4), 60);
        Check.same("stretch(1, 1800) on the air", x.stretch(1, 1800), 1850);
        Check.same("it goes on as long", x.value(13), 1849);
        x.pass(1849);
        Check.same("it is done then", x.element(1, 3), 2);
        Clock y = Check.hour("10@5;");
        y.pass(10);
        Check.failsState("a late begin counts", y, c -> c.stretch(0, -6));
        Check.same("stretch(0, -5) of what began at 5", y.stretch(0, -5), 5);
        Check.same("done at the second 10", y.element(0, 3), 2);
    }

    private static void p4StretchWrong() {
        Clock x = Check.hour("10r9;10r0;1800@20;");
        int[] noElement = {-1, 3, 12, Integer.MIN_VALUE, Integer.MAX_VALUE};
        for (int e : noElement) {
            Check.failsIndex("stretch(" + e + ", 0)", x, c -> c.stretch(e, 0));
            Check.failsIndex("stretch(" + e + ", 1801)", x, c -> c.stretch(e, 1801));
        }
        int[] wrong = {-1801, 1801, Integer.MIN_VALUE, Integer.MAX_VALUE};
        for (int by : wrong) {
            Check.failsArgument("stretch(0, " + by + ")", x, c -> c.stretch(0, by));
        }
        x.drop(1);
        Check.failsState("stretch of a dropped one", x, c -> c.stretch(1, 0));
        Check.failsArgument("stretch, wrong, of a dropped one", x, c -> c.stretch(1, 1801));
        x.pass(11);
        Check.failsState("stretch of one that is done", x, c -> c.stretch(0, 0));
        x.finish();
        Check.failsState("stretch in an hour that is over", x, c -> c.stretch(2, 0));
    }

    private static void p5Drop() {
        Clock x = Check.hour("10;20@100;30;40r9;");
        Check.undoable("drop(1)", x, c -> c.drop(1));
        Check.same("drop(1), a fixed one", x.drop(1), 3);
        Check.same("it is dropped", x.element(1, 3), 3);
        Check.same("the goal is another one", x.value(8), 3600);
        Check.sameText("the log", Check.log(x), "0d1");
        x.pass(5);
        Check.same("drop(3), with rank 9", x.drop(3), 1);
        Check.same("drop(2)", x.drop(2), 0);
        Check.sameText("the log with the seconds", Check.log(x), "0d1 0e0 5d3 5d2");
        x.pass(5);
        x.pass(5);
        Check.same("silence then", x.value(7), 5);
        Clock y = Check.hour("10@100;10@200;");
        y.pass(50);
        Check.same("drop(0) during the silence ahead of it", y.drop(0), 1);
        Check.same("the silence still ends at the old goal", y.value(13), 50);
        y.finish();
        Check.sameText("then another silence begins", Check.log(y), "0s 50d0 100s 200e1 210s");
    }

    private static void p5DropWrong() {
        Clock x = Check.hour("10;20@100;30;");
        int[] noElement = {-1, 3, 12, Integer.MIN_VALUE, Integer.MAX_VALUE};
        for (int e : noElement) {
            Check.failsIndex("drop(" + e + ")", x, c -> c.drop(e));
        }
        x.drop(2);
        Check.failsState("drop of a dropped one", x, c -> c.drop(2));
        x.pass(1);
        Check.failsState("drop of the one on the air", x, c -> c.drop(0));
        x.pass(9);
        Check.failsState("drop of one that is done", x, c -> c.drop(0));
        x.finish();
        Check.failsState("drop in an hour that is over", x, c -> c.drop(1));
    }

    private static void p6Pass() {
        Clock x = Check.hour("10;20;+5;");
        Check.undoable("pass(1)", x, c -> c.pass(1));
        Check.same("pass(10)", x.pass(10), 10);
        Check.same("the second", x.value(2), 10);
        Check.same("what ends then is done", x.element(0, 3), 2);
        Check.same("nothing begins", x.element(1, 3), 0);
        Check.same("nothing is on the air", x.value(13), 0);
        Check.same("pass(1)", x.pass(1), 1);
        Check.same("now it has begun", x.element(1, 4), 10);
        Check.same("19 are left", x.value(13), 19);
        Check.same("pass(3000)", x.pass(3000), 3000);
        Check.sameText("many things in one call", Check.log(x), "0e0 10e1 30f0 35s");
        Check.same("silent seconds so far", x.value(7), 3011 - 35);
        int[] wrong = {0, -1, 3601, Integer.MIN_VALUE, Integer.MAX_VALUE};
        for (int w : wrong) {
            Check.failsArgument("pass(" + w + ")", x, c -> c.pass(w));
        }
        Clock y = Check.hour("1;2;3;");
        for (int i = 0; i < 6; i++) {
            Check.same("second by second", y.pass(1), 1);
        }
        Check.sameText("second by second, the log", Check.log(y), "0e0 1e1 3e2");
    }

    private static void p6PassAtTheEnd() {
        Clock x = new Clock();
        Check.same("pass(3600)", x.pass(3600), 3600);
        Check.same("the hour is not found to be over", x.value(3), 0);
        Check.same("no lateness yet", x.value(9), -1);
        Check.same("pass(1) finds that it is over", x.pass(1), 0);
        Check.same("it is over", x.value(3), 1);
        Check.same("the second stays", x.value(2), 3600);
        Check.undoable("pass in an hour that is over", x, c -> c.pass(10));
        Check.same("pass(10)", x.pass(10), 0);
        Check.same("the second still stays", x.value(2), 3600);
        Clock y = Check.hour("1800@3500;");
        Check.same("pass(3600) over the end", y.pass(3600), 3600);
        Check.same("pass(3600) up to the end", y.pass(3600), 1700);
        Check.same("it is over later", y.value(3), 1);
        Check.same("the second is later", y.value(2), 5300);
        Clock z = new Clock();
        z.pass(1);
        Check.same("pass(3600) from 1", z.pass(3600), 3599);
        Check.same("found over in the same call", z.value(3), 1);
    }

    private static void p7Finish() {
        Clock x = Check.hour("600;600@3300;");
        Check.undoable("finish()", x, c -> c.finish());
        Check.same("finish()", x.finish(), 300);
        Check.same("over", x.value(3), 1);
        Check.same("the second", x.value(2), 3900);
        Check.sameText("the log", Check.log(x), "0e0 600s 3300e1");
        Check.undoable("finish() when it is over", x, c -> c.finish());
        Check.same("finish() again", x.finish(), 300);
        Check.same("finish() of an empty hour", new Clock().finish(), 0);
        Clock y = Check.hour("1800r9;1800r9;1800r9;1800r9;1800r9;1800r9;1800r9;1800r9;1800r9;1800r9;1800r9;1800r9;");
        for (int e = 0; e < 12; e++) {
            y.stretch(e, 1800);
        }
        Check.same("the longest hour", y.finish(), 11 * 3600);
        Clock z = Check.hour("1r0;");
        z.pass(3600);
        Check.same("finish() at 3600", z.finish(), 0);
    }

    private static void p8Again() {
        Clock x = Check.hour("1800r9;1800r9;30@3500;5r3;+40;");
        Check.failsState("again() in an hour that goes on", x, c -> c.again());
        x.pass(3600);
        Check.failsState("again() before the end is found", x, c -> c.again());
        x.stretch(2, 1);
        x.drop(3);
        x.finish();
        Check.same("a fixed one was late", x.value(10), 100);
        Check.undoable("again()", x, c -> c.again());
        Check.same("again()", x.again(), 1);
        int[] due = {4, 1, 0, 0, 4, 0, 1, 0, 3500, -1, 0, 0, 1, 0};
        for (int what = 0; what < due.length; what++) {
            Check.same("again: value(" + what + ")", x.value(what), due[what]);
        }
        Check.same("the length stays altered", x.element(2, 0), 31);
        for (int e = 0; e < 4; e++) {
            Check.same("again: element " + e + " waits", x.element(e, 3), 0);
            Check.same("again: element " + e + " has not begun", x.element(e, 4), -1);
        }
        Check.same("again: the fixed one is not late", x.element(2, 5), -1);
        Check.sameDouble("again: sounding()", x.sounding(), 1.0);
        x.drop(0);
        x.finish();
        Check.same("the filler was played", x.filler(0, 1), 2);
        Check.same("again() once more", x.again(), 2);
        Check.same("the filler waits", x.filler(0, 1), 0);
        Check.same("the filler has not begun", x.filler(0, 2), -1);
        Check.same("no silence", x.value(7), 0);
        Check.failsState("again() twice", x, c -> c.again());
    }

    private static void p9Element() {
        Clock x = Check.hour("100r9;50r0;20@80r3;10;");
        x.pass(80);
        int[][] due = {{100, -1, 9, 1, 0, -1, 0}, {50, -1, 0, 3, -1, -1, 0}, {20, 80, 3, 0, -1, -1, 0}, {10, -1, 5, 0, -1, -1, 0}};
        sameElements("at 80", x, due);
        x.pass(25);
        int[][] later = {{100, -1, 9, 2, 0, -1, 0}, {50, -1, 0, 3, -1, -1, 0}, {20, 80, 3, 1, 100, 20, 0}, {10, -1, 5, 0, -1, -1, 1}};
        sameElements("at 105", x, later);
        x.finish();
        Check.same("a floating one has no lateness", x.element(3, 5), -1);
        Check.same("a late one keeps its lateness", x.element(2, 5), 20);
        Clock y = Check.hour("5@7;");
        y.drop(0);
        Check.same("a dropped fixed one has no lateness", y.element(0, 5), -1);
        Clock z = Check.hour("5@7;6;");
        z.pass(8);
        Check.same("in time is lateness 0", z.element(0, 5), 0);
        int[] noElement = {-1, 2, 12, Integer.MIN_VALUE, Integer.MAX_VALUE};
        for (int e : noElement) {
            Check.failsIndex("element(" + e + ", 0)", z, c -> c.element(e, 0));
            Check.failsIndex("element(" + e + ", 7)", z, c -> c.element(e, 7));
        }
        int[] wrong = {-1, 7, Integer.MIN_VALUE, Integer.MAX_VALUE};
        for (int what : wrong) {
            Check.failsArgument("element(0, " + what + ")", z, c -> c.element(0, what));
        }
    }

    private static void sameElements(String when, Clock x, int[][] due) {
        for (int e = 0; e < due.length; e++) {
            for (int what = 0; what < due[e].length; what++) {
                Check.same(when + ": element(" + e + ", " + what + ")", x.element(e, what), due[e][what]);
            }
        }
    }

    private static void p10Filler() {
        Clock x = Check.hour("+10;+20;10@30;");
        x.pass(5);
        Check.same("filler(0, 0)", x.filler(0, 0), 10);
        Check.same("filler(0, 1) on the air", x.filler(0, 1), 1);
        Check.same("filler(0, 2)", x.filler(0, 2), 0);
        Check.same("filler(1, 1) waits", x.filler(1, 1), 0);
        Check.same("filler(1, 2) has not begun", x.filler(1, 2), -1);
        x.pass(6);
        Check.same("filler(0, 1) done", x.filler(0, 1), 2);
        Check.same("filler(1, 1) on the air", x.filler(1, 1), 1);
        Check.same("filler(1, 2)", x.filler(1, 2), 10);
        int[] noFiller = {-1, 2, 10, Integer.MIN_VALUE, Integer.MAX_VALUE};
        for (int f : noFiller) {
            Check.failsIndex("filler(" + f + ", 0)", x, c -> c.filler(f, 0));
            Check.failsIndex("filler(" + f + ", 3)", x, c -> c.filler(f, 3));
        }
        int[] wrong = {-1, 3, Integer.MIN_VALUE, Integer.MAX_VALUE};
        for (int what : wrong) {
            Check.failsArgument("filler(0, " + what + ")", x, c -> c.filler(0, what));
        }
    }

    private static void p11Value() {
        Clock x = Check.hour("1800r9;1800r9;30@3500;20;+40;+50;10@3599;");
        sameValues("at 0", x, new int[] {5, 2, 0, 0, 5, 0, 2, 0, 3500, -1, 0, 0, 0, 0});
        x.pass(1000);
        sameValues("at 1000", x, new int[] {5, 2, 1000, 0, 4, 0, 2, 0, 3500, -1, 0, 1, 0, 800});
        x.stretch(1, -1800 + 500);
        x.drop(3);
        x.pass(2000);
        sameValues("at 3000", x, new int[] {5, 2, 3000, 0, 2, 1, 0, 610, 3500, -1, 0, 6, 0, 500});
        x.finish();
        Check.same("over", x.value(3), 1);
        Check.same("the goal when nothing waits", x.value(8), 3600);
        Clock y = Check.hour("700@0;10@100;10@690;");
        y.pass(705);
        Check.same("the lateness so far", y.value(10), 600);
        y.finish();
        Check.same("the greatest lateness, not the last one", y.value(10), 600);
        Check.same("no lateness of the hour", y.value(9), 0);
        int[] wrong = {-1, 14, Integer.MIN_VALUE, Integer.MAX_VALUE};
        for (int what : wrong) {
            Check.failsArgument("value(" + what + ")", y, c -> c.value(what));
        }
    }

    private static void sameValues(String when, Clock x, int[] due) {
        for (int what = 0; what < due.length; what++) {
            Check.same(when + ": value(" + what + ")", x.value(what), due[what]);
        }
    }

    private static void p12Entry() {
        Clock x = Check.hour("10;20r0;5@20;+3;");
        x.finish();
        int[][] due = {{0, 3, 1}, {0, 0, 0}, {10, 1, 0}, {13, 2, -1}, {20, 0, 2}, {25, 2, -1}};
        Check.same("the entries", x.value(11), due.length);
        for (int n = 0; n < due.length; n++) {
            for (int what = 0; what < 3; what++) {
                Check.same("entry(" + n + ", " + what + ")", x.entry(n, what), due[n][what]);
            }
        }
        int[] noEntry = {-1, 6, 35, 100, Integer.MIN_VALUE, Integer.MAX_VALUE};
        for (int n : noEntry) {
            Check.failsIndex("entry(" + n + ", 0)", x, c -> c.entry(n, 0));
            Check.failsIndex("entry(" + n + ", 3)", x, c -> c.entry(n, 3));
        }
        int[] wrong = {-1, 3, Integer.MIN_VALUE, Integer.MAX_VALUE};
        for (int what : wrong) {
            Check.failsArgument("entry(0, " + what + ")", x, c -> c.entry(0, what));
        }
        longestLog();
    }

    /** Twelve fixed elements, each behind a silence, and ten fillers at the end: 35 entries. */
    private static void longestLog() {
        Clock x = new Clock();
        for (int e = 0; e < 12; e++) {
            x.addElement(1, e * 100 + 50, 5);
        }
        x.pass(1151);
        for (int f = 0; f < 10; f++) {
            x.addFiller(10);
        }
        x.finish();
        Check.same("the longest log", x.value(11), 35);
        Check.same("its last entry", x.entry(34, 0), 1251);
        Check.same("its last entry is silence", x.entry(34, 1), 2);
        Check.same("the silence was counted", x.value(7), 3600 - 12 - 100);
    }

    private static void goingOnDrops() {
        Clock x = Check.hour("100r1;100r0;100r0;100r2;50@250;100r0;");
        x.pass(1);
        Check.sameText("the lowest rank, of several the last one", Check.log(x), "0d2 0d1 0e0");
        Clock y = Check.hour("100r8;100r8;100r9;100r9;5@250;");
        y.pass(1);
        Check.sameText("a rank of 9 is not dropped", Check.log(y), "0d1 0d0 0e2");
        y.finish();
        Check.same("they run over", y.element(2, 4) * 1000 + y.element(3, 4), 100);
        Check.same("the hour is in time", y.value(9), 0);
        Clock z = Check.hour("100r0;150r0;50@250;");
        z.pass(1);
        Check.sameText("what just fits is not dropped", Check.log(z), "0e0");
        Clock w = Check.hour("100r0;151r0;50@250;");
        w.pass(1);
        Check.sameText("a second too much", Check.log(w), "0d1 0e0");
        Clock v = Check.hour("100@0;10r8;10@50;10r9;10@60;");
        v.finish();
        Check.sameText("late ones", Check.log(v), "0e0 100d1 100e2 110e3 120e4 130s");
        Clock u = Check.hour("10;20@3000;10r0;");
        u.drop(1);
        u.pass(1);
        Check.same("the section goes past what is dropped", u.element(2, 6), 1);
        Clock q = Check.hour("10;20;30;");
        q.drop(1);
        Check.same("section: first", q.element(0, 6), 1);
        Check.same("section: the dropped one", q.element(1, 6), 0);
        Check.same("section: behind it", q.element(2, 6), 1);
    }

    private static void twelveAreDroppedAtOnce() {
        Clock x = new Clock();
        x.pass(3600);
        for (int e = 0; e < 12; e++) {
            x.addElement(1, -1, e % 9);
        }
        Check.same("twelve would be dropped", x.drops(), 4095);
        Check.same("none of them begins", x.beginOf(11), -1);
        Check.same("the hour is over in time", x.finish(), 0);
        Check.sameText("all twelve, by their ranks", Check.log(x),
            "0s 3600d9 3600d0 3600d10 3600d1 3600d11 3600d2 3600d3 3600d4 3600d5 3600d6 3600d7 3600d8");
    }

    private static void goingOnFills() {
        Clock x = Check.hour("10@100;+60;+40;+90;+50;+50;");
        x.pass(100);
        Check.sameText("greatest sum, fewest, least number", Check.log(x), "0f0 60f1");
        Clock y = Check.hour("10@100;+30;+30;+40;+99;");
        y.pass(100);
        Check.sameText("the sum counts before the number of fillers", Check.log(y), "0f0 30f1 60f2");
        Clock z = Check.hour("10@100;+30;+70;+100;");
        z.pass(100);
        Check.sameText("one is fewer than two", Check.log(z), "0f2");
        Clock w = Check.hour("10@100;+101;+200;");
        w.pass(100);
        Check.sameText("too long ones", Check.log(w), "0s");
        Clock v = Check.hour("10@100;+97;+2;+1;");
        v.finish();
        Check.sameText("one may be played at its own end", Check.log(v), "0f0 97f1 99f2 100e0 110s");
        Clock u = Check.hour("10@100;+95;");
        u.finish();
        Check.sameText("what is left is silence", Check.log(u), "0f0 95s 100e0 110s");
        Clock t = Check.hour("10@100;+60;+90;");
        t.pass(30);
        t.addFiller(10);
        t.pass(300);
        Check.sameText("the choice is made anew when it ends", Check.log(t), "0f1 90f2 100e0 110f0 170s");
    }

    private static void goingOnSilence() {
        Clock x = new Clock();
        x.pass(10);
        x.addElement(10, 20, 5);
        x.addFiller(5);
        Check.same("a silence goes on to the goal as it was", x.value(13), 3590);
        x.finish();
        Check.sameText("the late fixed one", Check.log(x), "0s 3600e0");
        Check.same("its lateness", x.element(0, 5), 3580);
        Check.same("lateness of the hour", x.value(9), 10);
        Check.same("the filler was not played", x.filler(0, 1), 0);
    }

    private static void goingOnFixed() {
        Clock x = Check.hour("10@3599;10r9;10r8;");
        x.finish();
        Check.sameText("after 3600 rank 9 goes on, rank 8 is dropped", Check.log(x), "0s 3599e0 3609d2 3609e1");
        Check.same("the hour is over at 3619", x.value(9), 19);
        Clock y = Check.hour("10@100;10@50;10@0;");
        y.finish();
        Check.sameText("fixed ones begin in their order", Check.log(y), "0s 100e0 110e1 120e2 130s");
        Check.same("the greatest lateness", y.value(10), 120);
        Clock z = Check.hour("10@0;10@10;");
        z.finish();
        Check.sameText("what ends and what begins at the same second", Check.log(z), "0e0 10e1 20s");
    }
}
