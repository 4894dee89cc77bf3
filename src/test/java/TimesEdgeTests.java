/** The edges of the promises 13 to 21, a method for each sentence of the document that names one. */
public final class TimesEdgeTests {
    private static final String TWELVE = "1r9;1r9;1r9;1r9;1r9;1r9;1r9;1r9;1r9;1r9;1r9;1r9;";
    private static final String TEN = "+900;+900;+900;+900;+900;+900;+900;+900;+900;+900;";

    public static void main(String[] args) {
        p13NumberOfAnElement();
        p13Minus10000IfItDoesNotWait();
        p13ItsOwnTimeDoesNotMatter();
        p13UpToTheNextFixedOneThatWaits();
        p13By3600WithoutOne();
        p13Below0IfItIsTooLate();
        p13DoesNotLookAtThePresent();
        p14NumberOfAnElement();
        p14AsItWasForOneThatHasBegun();
        p14NoneIfItIsDroppedOrWouldBe();
        p14IfEverythingWentOn();
        p15TheHourWouldBeOver();
        p16OnlyThoseThatWait();
        p16FromNoneToTwelve();
        p17FromNoneTo3600();
        p17WhatIsLeftOfOneOnTheAir();
        p18GapFrom1To3600();
        p18OnlyFillersThatWait();
        p18AtMostTheGap();
        p18Ties();
        p18FromNoneToTen();
        p19AboveFrom0To3600();
        p19GreaterThanTheNumber();
        p19MayBeMoreThan3600();
        p19OneOrMoreFillersThatWait();
        p19NoneIfThereIsNone();
        p20NoneIfNotMoreWouldBeDone();
        p20OfSeveralTheLowestOne();
        p20TheMost();
        p20OnlyThoseThatWait();
        p20ByHandNow();
        p21OneAtTheSecond0();
        p21TheShareSoFar();
        askingOnTheWayLeavesNoTrace();
        Check.end("TimesEdgeTests");
    }

    // ---- promise 13

    private static void p13NumberOfAnElement() {
        Check.numbersBelow("backTime of none", new Clock(), 0, (c, e) -> c.backTime(e));
        Check.numbersBelow("backTime of one", Check.hour("1;+1;+1;"), 1, (c, e) -> c.backTime(e));
        Check.numbersBelow("backTime of twelve", Check.hour(TWELVE), 12, (c, e) -> c.backTime(e));
    }

    private static void p13Minus10000IfItDoesNotWait() {
        Clock x = Check.hour("10;10;10;");
        Check.sameRow("all wait", e -> x.backTime(e), 3570, 3580, 3590);
        x.pass(9);
        Check.sameRow("one is on the air", e -> x.backTime(e), -10000, 3580, 3590);
        x.pass(1);
        Check.sameRow("it is done", e -> x.backTime(e), -10000, 3580, 3590);
        x.drop(2);
        Check.sameRow("one is dropped", e -> x.backTime(e), -10000, 3590, -10000);
        x.finish();
        Check.sameRow("over", e -> x.backTime(e), -10000, -10000, -10000);
    }

    private static void p13ItsOwnTimeDoesNotMatter() {
        Clock x = Check.hour("10@5;20@2000;30@0;");
        Check.sameRow("each by the time of the next one", e -> x.backTime(e), 1990, -20, 3570);
    }

    private static void p13UpToTheNextFixedOneThatWaits() {
        Clock x = Check.hour("10;20@100;30;40@200;50;");
        Check.sameRow("all wait", e -> x.backTime(e), 90, 150, 170, 3510, 3550);
        x.drop(3);
        Check.sameRow("past the dropped fixed one", e -> x.backTime(e), 90, 3500, 3520, -10000, 3550);
        x.drop(2);
        Check.sameRow("without a dropped floating one", e -> x.backTime(e), 90, 3530, -10000, -10000, 3550);
        x.drop(1);
        Check.sameRow("all behind it up to the end", e -> x.backTime(e), 3540, -10000, -10000, -10000, 3550);
        Clock y = Check.hour("10;20@100;30;40@200;50;");
        y.pass(130);
        Check.sameRow("the fixed one ahead does not matter", e -> y.backTime(e), -10000, -10000, -10000, 3510, 3550);
    }

    private static void p13By3600WithoutOne() {
        Clock x = Check.hour("1;");
        Check.same("a second", x.backTime(0), 3599);
        x.stretch(0, 1799);
        Check.same("1800 seconds", x.backTime(0), 1800);
        x.stretch(0, 1800);
        Check.same("3600 seconds", x.backTime(0), 0);
        Clock y = Check.hour("1;1;1;1;1;1;1;1;1;1;1;1@3599;");
        Check.same("the last of twelve", y.backTime(11), 3599);
        Check.same("the last but one of twelve", y.backTime(10), 3598);
        Check.same("the first of twelve", y.backTime(0), 3588);
    }

    private static void p13Below0IfItIsTooLate() {
        Clock x = Check.hour("10;1@10;1@0;");
        Check.same("0 is not too late", x.backTime(0), 0);
        Check.same("one second", x.backTime(1), -1);
        x.stretch(0, 1);
        Check.same("a second too late", x.backTime(0), -1);
        Clock y = Check.hour(TWELVE);
        for (int e = 0; e < 12; e++) {
            y.stretch(e, 1800);
            y.stretch(e, 1799);
        }
        Check.same("the longest hour", y.backTime(0), 3600 - 12 * 3600);
        Check.same("its last one", y.backTime(11), 0);
    }

    private static void p13DoesNotLookAtThePresent() {
        Clock x = Check.hour("10r9;20r9;5@25;");
        int[] seconds = {1, 8, 1};
        for (int s : seconds) {
            Check.same("at " + x.value(2), x.backTime(1), 5);
            x.pass(s);
        }
        Check.same("at 10, too late now", x.backTime(1), 5);
    }

    // ---- promise 14

    private static void p14NumberOfAnElement() {
        Check.numbersBelow("beginOf of none", new Clock(), 0, (c, e) -> c.beginOf(e));
        Check.numbersBelow("beginOf of one", Check.hour("1;+1;+1;"), 1, (c, e) -> c.beginOf(e));
        Check.numbersBelow("beginOf of twelve", Check.hour(TWELVE), 12, (c, e) -> c.beginOf(e));
    }

    private static void p14AsItWasForOneThatHasBegun() {
        Clock x = Check.hour("10;10@20;");
        x.pass(5);
        Check.sameRow("on the air", e -> x.beginOf(e), 0, 20);
        x.pass(25);
        Check.sameRow("done", e -> x.beginOf(e), 0, 20);
        x.finish();
        Check.sameRow("over", e -> x.beginOf(e), 0, 20);
        x.again();
        x.stretch(0, 20);
        Check.sameRow("not as it was in the hour before", e -> x.beginOf(e), -1, 20);
    }

    private static void p14NoneIfItIsDroppedOrWouldBe() {
        Clock x = Check.hour("10r9;10r8;1@15;10;10@3595;10r8;10r9;");
        Check.sameRow("two would be", e -> x.beginOf(e), 0, -1, 15, 16, 3595, -1, 3605);
        x.drop(0);
        Check.sameRow("one is, one would be", e -> x.beginOf(e), -1, 0, 15, 16, 3595, -1, 3605);
        x.drop(4);
        Check.sameRow("two are", e -> x.beginOf(e), -1, 0, 15, 16, -1, 26, 36);
    }

    private static void p14IfEverythingWentOn() {
        Clock x = Check.hour("10;10;+5;1@23;1;");
        Check.sameRow("at 0", e -> x.beginOf(e), 0, 10, 23, 24);
        x.pass(10);
        Check.sameRow("nothing is on the air, one would begin now", e -> x.beginOf(e), 0, 10, 23, 24);
        x.pass(1);
        x.stretch(1, 1800);
        Check.sameRow("late ones", e -> x.beginOf(e), 0, 10, 1820, 1821);
        x.undo();
        x.pass(10);
        Check.sameRow("in a silence", e -> x.beginOf(e), 0, 10, 23, 24);
        Check.same("nothing has begun by asking", x.value(11), 3);
        Clock y = new Clock();
        y.pass(3600);
        y.addElement(1, 0, 5);
        y.addElement(1, -1, 9);
        Check.sameRow("behind the end of the hour", e -> y.beginOf(e), 3600, 3601);
    }

    // ---- promise 15

    private static void p15TheHourWouldBeOver() {
        Check.same("nothing at all", new Clock().endOfHour(), 3600);
        Check.same("in time", Check.hour("1800r9;1800r9;").endOfHour(), 3600);
        Check.same("the last second", Check.hour("1@3599;").endOfHour(), 3600);
        Check.same("a second late", Check.hour("2@3599;").endOfHour(), 3601);
        Check.same("dropped in time", Check.hour("1800;1800;1800;").endOfHour(), 3600);
        Check.same("rank 9 is not dropped", Check.hour("1800r9;1800r9;1r9;").endOfHour(), 3601);
        Check.same("twelve long ones", Check.hour(TWELVE.replace("1r9", "1800r9")).endOfHour(), 21600);
        Clock x = Check.hour("2@3599;");
        x.pass(3600);
        Check.same("while it runs over", x.endOfHour(), 3601);
        x.pass(1);
        Check.same("not yet found to be over", x.endOfHour(), 3601);
        x.finish();
        Check.same("over", x.endOfHour(), 3601);
        Check.same("asking does not go on", Check.hour("1;").value(2), 0);
    }

    // ---- promise 16

    private static void p16OnlyThoseThatWait() {
        Clock x = Check.hour("10;10r0;1@15;1800;1800;1800;");
        Check.same("three would be", x.drops(), 2 + 16 + 32);
        x.drop(3);
        Check.same("not the one that is dropped by hand", x.drops(), 2 + 32);
        x.pass(1);
        Check.same("not the one that is dropped by now", x.drops(), 32);
        Check.same("it is dropped", x.element(1, 3), 3);
        x.stretch(0, 1800);
        Check.same("a fixed one is late", x.drops(), 16 + 32);
        x.finish();
        Check.same("over", x.drops(), 0);
    }

    private static void p16FromNoneToTwelve() {
        Check.same("no elements", new Clock().drops(), 0);
        Check.same("twelve of rank 9", Check.hour(TWELVE.replace("1r9", "1800r9")).drops(), 0);
        Check.same("twelve of rank 8, two fit", Check.hour(TWELVE.replace("1r9", "1800r8")).drops(), 4095 - 3);
        Clock x = new Clock();
        x.pass(3600);
        for (int e = 0; e < 12; e++) {
            x.addElement(1, -1, 8);
            Check.same("behind the end, " + (e + 1), x.drops(), (2 << e) - 1);
        }
        Check.same("element 0 alone", Check.hour("2r0;1@1;").drops(), 1);
        Check.same("element 11 alone", Check.hour("1;1;1;1;1;1;1;1;1;1;1800;1800;").drops(), 2048);
    }

    // ---- promise 17

    private static void p17FromNoneTo3600() {
        Check.same("an empty hour", new Clock().silence(), 3600);
        Check.same("a full hour", Check.hour("1800;1800;").silence(), 0);
        Check.same("a second", Check.hour("1800;1799;").silence(), 1);
        Check.same("an hour that runs over", Check.hour("1800r9;1800r9;1800r9;").silence(), 0);
        Check.same("fillers are no silence", Check.hour("+900;+900;+900;+899;").silence(), 1);
        Check.same("several silences", Check.hour("1@10;1@20;1@30;").silence(), 3597);
    }

    private static void p17WhatIsLeftOfOneOnTheAir() {
        Clock x = Check.hour("1@10;");
        x.pass(1);
        Check.same("9 are left of it", x.silence(), 9 + 3589);
        x.pass(8);
        Check.same("1 is left of it", x.silence(), 1 + 3589);
        x.pass(1);
        Check.same("it has ended", x.silence(), 3589);
        x.pass(1);
        Check.same("not those that have passed", x.silence(), 3589);
        x.pass(3588);
        Check.same("the last second", x.silence(), 1);
        x.pass(1);
        Check.same("none is left", x.silence(), 0);
        x.finish();
        Check.same("over", x.silence(), 0);
        x.again();
        Check.same("the next hour", x.silence(), 3599);
    }

    // ---- promise 18

    private static void p18GapFrom1To3600() {
        Check.argumentFrom("choice", Check.hour("+1;"), 1, 3600, (c, gap) -> c.choice(gap));
        Check.argumentFrom("choice without fillers", new Clock(), 1, 3600, (c, gap) -> c.choice(gap));
        Clock x = Check.hour("+1;+2;");
        Check.same("a gap of 1", x.choice(1), 1);
        Check.same("a gap of 3600", x.choice(3600), 3);
        x.finish();
        Check.argumentFrom("choice when it is over", x, 1, 3600, (c, gap) -> c.choice(gap));
    }

    private static void p18OnlyFillersThatWait() {
        Clock x = Check.hour("5@9;+5;+4;+900;");
        Check.same("all wait", x.choice(909), 7);
        x.pass(1);
        Check.same("one is on the air", x.choice(909), 6);
        x.pass(5);
        Check.same("one is done, one is on the air", x.choice(909), 4);
        Check.same("none fits", x.choice(899), 0);
        x.pass(10);
        Check.same("none waits", x.choice(3600), 0);
    }

    private static void p18AtMostTheGap() {
        Clock x = Check.hour("+100;+900;");
        int[][] due = {{1, 0}, {99, 0}, {100, 1}, {101, 1}, {899, 1}, {900, 2}, {999, 2}, {1000, 3}, {3600, 3}};
        for (int[] d : due) {
            Check.same("choice(" + d[0] + ")", x.choice(d[0]), d[1]);
        }
        Check.same("four of 900", Check.hour(TEN).choice(3600), 15);
        Check.same("three of 900", Check.hour(TEN).choice(3599), 7);
    }

    private static void p18Ties() {
        Check.same("the fewest: one, not two", Check.hour("+1;+2;+3;").choice(3), 4);
        Check.same("the fewest: two, not three", Check.hour("+10;+20;+30;+25;+35;").choice(60), 8 + 16);
        Check.same("the least number of two", Check.hour("+7;+7;").choice(7), 1);
        Check.same("the least number of pairs", Check.hour("+1;+2;+3;+4;").choice(5), 2 + 4);
        Check.same("the least number of triples", Check.hour("+5;+5;+5;+5;").choice(15), 7);
        Check.same("the greatest sum before the fewest", Check.hour("+8;+3;+3;+3;").choice(9), 14);
        Check.same("the tenth alone", Check.hour("+1;+1;+1;+1;+1;+1;+1;+1;+1;+9;").choice(9), 512);
    }

    private static void p18FromNoneToTen() {
        Check.same("none", new Clock().choice(3600), 0);
        Check.same("all ten", Check.hour(TEN.replace("900", "360")).choice(3600), 1023);
        Check.same("nine of ten", Check.hour(TEN.replace("900", "360")).choice(3599), 511);
    }

    // ---- promise 19

    private static void p19AboveFrom0To3600() {
        Check.argumentFrom("nextFull", Check.hour("+1;"), 0, 3600, (c, above) -> c.nextFull(above));
        Check.argumentFrom("nextFull without fillers", new Clock(), 0, 3600, (c, above) -> c.nextFull(above));
    }

    private static void p19GreaterThanTheNumber() {
        Clock x = Check.hour("+1;+3;+900;");
        int[][] due = {{0, 1}, {1, 3}, {2, 3}, {3, 4}, {4, 900}, {899, 900}, {900, 901}, {901, 903}, {903, 904}, {904, -1}};
        for (int[] d : due) {
            Check.same("nextFull(" + d[0] + ")", x.nextFull(d[0]), d[1]);
        }
    }

    private static void p19MayBeMoreThan3600() {
        Check.same("4500", Check.hour(TEN).nextFull(3600), 4500);
        Check.same("3600", Check.hour(TEN).nextFull(3599), 3600);
        Check.same("3601", Check.hour("+900;+900;+900;+900;+1;").nextFull(3600), 3601);
        Check.same("all ten, 3601", Check.hour("+361;" + TEN.replace("900", "360").substring(5)).nextFull(3600), 3601);
        Check.same("3600 alone is not greater", Check.hour("+900;+900;+900;+900;").nextFull(3600), -1);
    }

    private static void p19OneOrMoreFillersThatWait() {
        Check.same("no filler fills no gap", new Clock().nextFull(0), -1);
        Clock x = Check.hour("5@9;+5;+4;+900;");
        Check.same("all wait", x.nextFull(0), 4);
        x.pass(1);
        Check.same("one is on the air", x.nextFull(4), 900);
        x.pass(5);
        Check.same("one is done, one is on the air", x.nextFull(0), 900);
        x.pass(10);
        Check.same("none waits", x.nextFull(0), -1);
    }

    private static void p19NoneIfThereIsNone() {
        Clock x = Check.hour("+900;+800;");
        Check.same("the greatest", x.nextFull(1699), 1700);
        Check.same("none behind the greatest", x.nextFull(1700), -1);
        Check.same("none at 3600", x.nextFull(3600), -1);
    }

    // ---- promise 20

    private static void p20NoneIfNotMoreWouldBeDone() {
        Check.same("no elements", new Clock().bestDrop(), -1);
        Check.same("one", Check.hour("1;").bestDrop(), -1);
        Check.same("all are done", Check.hour(TWELVE).bestDrop(), -1);
        Check.same("as many", Check.hour("1800r9;1800r9;1r8;").bestDrop(), -1);
        Check.same("one more", Check.hour("1800r9;1800r9;1r8;1r8;").bestDrop(), 0);
        Clock x = Check.hour("1800r9;1800r9;1r8;1r8;");
        x.finish();
        Check.same("over", x.bestDrop(), -1);
    }

    private static void p20OfSeveralTheLowestOne() {
        Check.same("0 and 1", Check.hour("1800r9;1800r9;1r0;1r0;1r0;").bestDrop(), 0);
        Check.same("1 and 2", Check.hour("5r9;1800r9;1800r9;5r0;1r0;1r0;1r0;1r0;").bestDrop(), 1);
        Check.same("of three floating ones and a fixed one", Check.hour("1r0;1r0;9r9;9r9;9r9;9@20;").bestDrop(), 2);
        Check.same("a fixed one that is better", Check.hour("1r0;1r0;1r0;9r9;9r9;9r9;9@20;").bestDrop(), 6);
    }

    private static void p20TheMost() {
        Clock x = Check.hour("3r9;6r9;1r0;1r0;1r0;1r0;1r0;1r0;9@9;");
        Check.same("six instead of three", x.bestDrop(), 1);
        x.drop(1);
        Check.same("then nothing more", x.bestDrop(), -1);
        Clock y = Check.hour("6r9;3r9;1r0;1r0;1r0;1r0;1r0;1r0;9@9;");
        Check.same("the first is the best", y.bestDrop(), 0);
    }

    private static void p20OnlyThoseThatWait() {
        Clock x = Check.hour("1800r9;1800r9;1r8;1r8;1r8;");
        Check.same("at 0", x.bestDrop(), 0);
        x.pass(1);
        Check.same("it is on the air, and those of rank 8 are dropped", x.bestDrop(), -1);
        Clock y = Check.hour("1800r9;1@1800;1800r9;1r8;1r8;");
        y.pass(1);
        Check.same("the one on the air cannot be dropped", y.bestDrop(), 2);
        Clock z = Check.hour("9;1800r9;1@1800;1800r9;1r8;1r8;1r8;1r8;");
        z.pass(10);
        Check.same("those that are done count in both", z.bestDrop(), 3);
    }

    private static void p20ByHandNow() {
        Clock x = Check.hour("1800@0;900r8;1r8;1r8;1@1800;");
        Check.same("a fixed one", x.bestDrop(), 0);
        Check.same("bestDrop() drops nothing", x.value(5), 0);
        Check.same("bestDrop() begins nothing", x.value(11), 0);
        Check.same("the one behind which all are late", Check.hour("10@3599;1r8;1r8;1r8;").bestDrop(), 0);
        String[] texts = {"5r9;5r8;5r8;1@5;", "9r9;3r2;4@10;5r8;6r7;8@20r0;9;", "7@3;7@4;7r3;7r3;7@9;7r9;7;7@30;",
            "1800r8;1800r9;900r8;900r7;900@3000;1;2;3;"};
        for (String text : texts) {
            Clock y = Check.hour(text);
            Check.same("as tried by hand, " + text, y.bestDrop(), bestOf(y));
            y.pass(7);
            Check.same("as tried by hand at 7, " + text, y.bestDrop(), bestOf(y));
        }
    }

    /** The best one, found by trying each one by hand. */
    private static int bestOf(Clock x) {
        int best = -1;
        int most = done(x, -1);
        for (int e = 0; e < x.value(0); e++) {
            if (x.element(e, 3) == 0 && done(x, e) > most) {
                most = done(x, e);
                best = e;
            }
        }
        return best;
    }

    private static int done(Clock x, int dropped) {
        Clock y = x.twin();
        if (dropped >= 0) {
            y.drop(dropped);
        }
        y.finish();
        int done = 0;
        for (int e = 0; e < y.value(0); e++) {
            done += y.element(e, 3) == 2 ? 1 : 0;
        }
        return done;
    }

    // ---- promise 21

    private static void p21OneAtTheSecond0() {
        Clock x = Check.hour("1@5;");
        Check.sameDouble("at 0", x.sounding(), 1.0);
        x.pass(1);
        Check.sameDouble("a second of silence", x.sounding(), 0.0);
        x.undo();
        Check.sameDouble("at 0 again", x.sounding(), 1.0);
        x.finish();
        x.again();
        Check.sameDouble("in the next hour", x.sounding(), 1.0);
    }

    private static void p21TheShareSoFar() {
        Clock x = Check.hour("1;1@2;1;1@3599;");
        double[] due = {1.0, 1.0 / 2.0, 2.0 / 3.0, 3.0 / 4.0, 3.0 / 5.0, 3.0 / 6.0, 3.0 / 7.0};
        for (int n = 0; n < due.length; n++) {
            x.pass(1);
            Check.sameDouble("at " + (n + 1), x.sounding(), due[n]);
        }
        x.finish();
        Check.sameDouble("over", x.sounding(), 4.0 / 3600.0);
        Clock y = Check.hour("1800r9;1800r9;1800r9;");
        y.finish();
        Check.sameDouble("no silence", y.sounding(), 1.0);
        Clock z = Check.hour("2;+1;1@3599;");
        z.stretch(1, 1800);
        z.finish();
        Check.sameDouble("an hour that runs over", z.sounding(), (5400.0 - 3596.0) / 5400.0);
    }

    // ---- promises 13 to 20

    /** What goes on is the same, whether all was asked at each step or nothing was. */
    private static void askingOnTheWayLeavesNoTrace() {
        Clock x = Check.hour("10;20r0;9@15;5;+30;");
        Clock y = x.twin();
        for (int step = 1; step <= 3; step++) {
            Check.view(x);
            x.pass(step * 6);
            y.pass(step * 6);
        }
        Check.view(x);
        x.addFiller(8);
        y.addFiller(8);
        x.addElement(3, 100, 5);
        y.addElement(3, 100, 5);
        x.finish();
        y.finish();
        Check.sameText("asked at each step", Check.view(x), Check.view(y));
    }
}
