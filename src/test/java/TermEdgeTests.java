/** The edges of "Terms": the hour, the section, going on, lateness, stretching and the log. */
public final class TermEdgeTests {
    public static void main(String[] args) {
        hourHas3600Seconds();
        fillerCanBePlayedOnce();
        sectionPassesOverThoseThatDoNotWait();
        sectionEndsAtTheNextFixedOneThatWaits();
        goalIs3600WithoutAFixedOne();
        step1NotWhenTheSumIsTheGoal();
        step1NeverARankOf9();
        step1TheLowestRank();
        step1OfSeveralTheLastOne();
        step1OnlyInTheSection();
        step1StopsWhenItFits();
        step1WhenTheGoalIsPast();
        step1IsDoneAnewAtEachThing();
        step1CountsThePresentLengths();
        step2TheFirstOneLeftBegins();
        step3OnlyIfTheGoalIsAhead();
        step3AtMostTheGap();
        step3TheGreatestSum();
        step3OfSeveralTheFewest();
        step3OfTheseTheLeastNumber();
        step3ItsLowestNumberBegins();
        step3IsChosenAnewAtEachEnd();
        step3SilenceUpToTheGoalAsItIsNow();
        step3AtMostTenFillers();
        step4TheFixedOneBeginsInTimeOrLate();
        step4TheHourIsOver();
        onTheAirUpToTheSecondBeforeItsEnd();
        endsAndBeginsAtTheSameSecond();
        latenessIs0OrMore();
        stretchedOnTheAir();
        logHasTheSecondAtWhichItIsFound();
        fiveHundredAndTwelveCalls();
        manyObjects();
        Check.end("TermEdgeTests");
    }

    /** The log when the hour of the text is over. */
    private static void goesOn(String what, String text, String log) {
        Clock x = Check.hour(text);
        x.finish();
        Check.sameText(what + ", " + text, Check.log(x), log);
    }

    private static void hourHas3600Seconds() {
        goesOn("3600 seconds of elements", "1800r9;1800;", "0e0 1800e1");
        goesOn("3599 seconds of elements", "1800r9;1799;", "0e0 1800e1 3599s");
        goesOn("3601 seconds of elements", "1800r9;1800;1;", "0d2 0e0 1800e1");
        goesOn("3600 seconds of fillers", "+900;+900;+900;+900;+1;", "0f0 900f1 1800f2 2700f3");
        goesOn("the second 0", "1@0;", "0e0 1s");
        goesOn("the second 3599", "1@3599;", "0s 3599e0");
    }

    private static void fillerCanBePlayedOnce() {
        goesOn("one filler, two gaps", "1@50;1@100;+30;", "0f0 30s 50e0 51s 100e1 101s");
        Clock x = Check.hour("1@50;+30;");
        x.finish();
        x.again();
        x.finish();
        Check.sameText("once more in the next hour", Check.log(x), "0f0 30s 50e0 51s");
    }

    private static void sectionPassesOverThoseThatDoNotWait() {
        Clock x = Check.hour("10;20;30;40;100@80;5;");
        x.drop(2);
        Check.sameRow("past a dropped one", e -> x.element(e, 6), 1, 1, 0, 1, 0, 0);
        x.pass(10);
        Check.sameText("70 seconds of three fit into 80", Check.log(x), "0d2 0e0");
        Check.sameRow("past one that is done, too", e -> x.element(e, 6), 0, 1, 0, 1, 0, 0);
        x.pass(5);
        Check.sameRow("past one on the air, too", e -> x.element(e, 6), 0, 0, 0, 1, 0, 0);
    }

    private static void sectionEndsAtTheNextFixedOneThatWaits() {
        Clock x = Check.hour("10;10@100;20;20@200;30;");
        Check.sameRow("ahead of the first one", e -> x.element(e, 6), 1, 0, 0, 0, 0);
        x.drop(1);
        Check.sameRow("ahead of the second one", e -> x.element(e, 6), 1, 0, 1, 0, 0);
        Check.same("its time is the goal", x.value(8), 200);
        x.drop(0);
        x.drop(2);
        Check.sameRow("none is left", e -> x.element(e, 6), 0, 0, 0, 0, 0);
        Check.same("the goal is the same", x.value(8), 200);
        x.drop(3);
        Check.sameRow("the last one", e -> x.element(e, 6), 0, 0, 0, 0, 1);
    }

    private static void goalIs3600WithoutAFixedOne() {
        Clock x = Check.hour("10;5@20;7;");
        Check.same("with one", x.value(8), 20);
        x.pass(21);
        Check.same("it is on the air", x.value(8), 3600);
        x.finish();
        Check.same("over", x.value(8), 3600);
        x.again();
        Check.same("it waits again", x.value(8), 20);
        x.drop(1);
        Check.same("it is dropped", x.value(8), 3600);
    }

    private static void step1NotWhenTheSumIsTheGoal() {
        goesOn("just fits", "40r0;60r0;1@100;", "0e0 40e1 100e2 101s");
        goesOn("a second too much", "40r0;61r0;1@100;", "0d1 0e0 40s 100e2 101s");
        goesOn("just fits into the hour", "1800r0;1800r0;", "0e0 1800e1");
        Clock x = new Clock();
        x.pass(3600);
        x.addElement(1, -1, 8);
        x.finish();
        Check.sameText("at 3600 nothing fits", Check.log(x), "0s 3600d0");
    }

    private static void step1NeverARankOf9() {
        goesOn("ranks of 9 alone", "60r9;60r9;1@100;", "0e0 60e1 120e2 121s");
        goesOn("a rank of 8 is dropped", "60r9;60r8;1@100;", "0d1 0e0 60s 100e2 101s");
        goesOn("all below 9 are dropped, even if that is not enough", "1r0;150r9;1r8;1@100;", "0d0 0d2 0e1 150e3 151s");
    }

    private static void step1TheLowestRank() {
        goesOn("the lowest in the middle", "50r3;50r1;50r2;1@100;", "0d1 0e0 50e2 100e3 101s");
        goesOn("0 is lower than 1", "50r1;50r0;50r1;1@100;", "0d1 0e0 50e2 100e3 101s");
        goesOn("in the order of the ranks", "50r2;50r1;50r8;50r0;50r9;1@50;", "0d3 0d1 0d0 0d2 0e4 50e5 51s");
    }

    private static void step1OfSeveralTheLastOne() {
        goesOn("the last of three", "50r4;50r4;50r4;1@100;", "0d2 0e0 50e1 100e3 101s");
        goesOn("the last two of three", "50r4;50r4;50r4;50r5;1@100;", "0d2 0d1 0e0 50e3 100e4 101s");
        goesOn("the last one of the lowest rank is not the last one", "50r4;50r4;50r5;1@100;", "0d1 0e0 50e2 100e3 101s");
    }

    private static void step1OnlyInTheSection() {
        goesOn("one behind the fixed one stays", "50r8;60r8;1@100;1r0;", "0d1 0e0 50s 100e2 101e3 102s");
        goesOn("the fixed one stays", "50r8;60r8;1@100r0;", "0d1 0e0 50s 100e2 101s");
        Clock x = Check.hour("50r9;50r0;60r8;1@100;");
        x.pass(1);
        Check.sameText("at 0", Check.log(x), "0d1 0d2 0e0");
        x.pass(49);
        x.addElement(40, -1, 0);
        Check.same("behind the fixed one it is not in the section", x.drops(), 0);
    }

    private static void step1StopsWhenItFits() {
        goesOn("one is enough", "10r0;80r1;90r2;30r3;1@200;", "0d0 0e1 80e2 170e3 200e4 201s");
        goesOn("a long one of a low rank makes room", "10r1;200r0;10r1;1@20;", "0d1 0e0 10e2 20e3 21s");
        goesOn("short ones of low ranks go first", "10r0;10r0;200r1;1@210;", "0d1 0e0 10e2 210e3 211s");
    }

    private static void step1WhenTheGoalIsPast() {
        goesOn("all below 9", "10@0;5r8;5r9;5r0;1@3;", "0e0 10d3 10d1 10e2 15e4 16s");
        goesOn("the goal is the present second", "10@0;1r8;1@10;", "0e0 10d1 10e2 11s");
        goesOn("behind 3600", "10@3595;1r8;1r9;1r0;", "0s 3595e0 3605d3 3605d1 3605e2");
    }

    private static void step1IsDoneAnewAtEachThing() {
        Clock x = Check.hour("50;40;10r0;1@100;");
        x.pass(50);
        x.stretch(1, 1);
        x.pass(1);
        Check.sameText("one that waits got longer", Check.log(x), "0e0 50d2 50e1");
        Clock y = Check.hour("50;40;10r0;1@100;");
        y.pass(1);
        y.stretch(0, 1);
        y.finish();
        Check.sameText("the one on the air got longer", Check.log(y), "0e0 51d2 51e1 91s 100e3 101s");
    }

    private static void step1CountsThePresentLengths() {
        Clock x = Check.hour("50r0;51r1;1@100;");
        Check.same("a second too much", x.drops(), 1);
        x.stretch(1, -1);
        Check.same("it fits", x.drops(), 0);
        x.stretch(0, 1);
        Check.same("a second too much again", x.drops(), 1);
    }

    private static void step2TheFirstOneLeftBegins() {
        goesOn("the first one is dropped", "50r0;60r1;1@100;", "0d0 0e1 60s 100e2 101s");
        goesOn("elements come before fillers", "10;1@20;+10;+20;", "0e0 10f0 20e1 21f1 41s");
        Clock x = Check.hour("10;20;30;");
        x.drop(0);
        x.pass(1);
        Check.same("the first one was dropped by hand", x.element(1, 4), 0);
    }

    private static void step3OnlyIfTheGoalIsAhead() {
        goesOn("a gap of 1", "9;1@10;+1;", "0e0 9f0 10e1 11s");
        goesOn("a gap of 1 without a filler", "9;1@10;", "0e0 9s 10e1 11s");
        goesOn("no gap", "10;1@10;+1;", "0e0 10e1 11f0 12s");
        goesOn("the goal is past", "11r9;1@10;+1;", "0e0 11e1 12f0 13s");
        goesOn("a gap of 3600", "+900;", "0f0 900s");
        goesOn("a gap of 1 at the end", "1800r9;1799r9;+1;", "0e0 1800e1 3599f0");
    }

    private static void step3AtMostTheGap() {
        goesOn("as long as the gap", "1@100;+100;", "0f0 100e0 101s");
        goesOn("a second longer", "1@100;+101;", "0s 100e0 101f0 202s");
        goesOn("a second shorter", "1@100;+99;", "0f0 99s 100e0 101s");
        goesOn("two of 101 together", "1@100;+50;+51;", "0f1 51s 100e0 101f0 151s");
    }

    private static void step3TheGreatestSum() {
        goesOn("three instead of one", "1@100;+98;+33;+33;+33;", "0f1 33f2 66f3 99s 100e0 101f0 199s");
        goesOn("one instead of three", "1@100;+100;+33;+33;+33;", "0f0 100e0 101f1 134f2 167f3 200s");
        goesOn("a high number", "1@100;+10;+100;", "0f1 100e0 101f0 111s");
    }

    private static void step3OfSeveralTheFewest() {
        goesOn("one instead of two", "1@100;+50;+50;+100;", "0f2 100e0 101f0 151f1 201s");
        goesOn("two instead of three of lower numbers", "1@100;+30;+30;+40;+50;+50;", "0f3 50f4 100e0 101f0 131f1 161f2 201s");
    }

    private static void step3OfTheseTheLeastNumber() {
        goesOn("of equal ones the first", "1@100;+100;+100;", "0f0 100e0 101f1 201s");
        goesOn("bits 1 and 2, not 0 and 3", "1@100;+40;+45;+55;+60;", "0f1 45f2 100e0 101f0 141f3 201s");
        goesOn("a high bit counts more than a low one", "1@100;+10;+20;+80;+90;", "0f1 20f2 100e0 101f0 111f3 201s");
    }

    private static void step3ItsLowestNumberBegins() {
        goesOn("the lowest number, not the longest", "1@100;+10;+90;", "0f0 10f1 100e0 101s");
        goesOn("the lowest number, not the shortest", "1@100;+90;+10;", "0f0 90f1 100e0 101s");
    }

    private static void step3IsChosenAnewAtEachEnd() {
        Clock x = Check.hour("1@100;+30;+70;");
        x.pass(10);
        x.addFiller(69);
        x.addFiller(71);
        x.finish();
        Check.sameText("the rest of the set still fits", Check.log(x), "0f0 30f1 100e0 101f2 170f3 241s");
        Clock y = Check.hour("1@100;+30;+60;");
        y.pass(10);
        y.addFiller(70);
        y.finish();
        Check.sameText("a better one has come", Check.log(y), "0f0 30f2 100e0 101f1 161s");
        Clock z = Check.hour("1@100;+30;+70;");
        z.pass(10);
        z.addElement(5, 50, 5);
        z.drop(0);
        z.finish();
        Check.sameText("the goal is another one", Check.log(z), "0f0 10d0 30s 50e1 55f1 125s");
    }

    private static void step3SilenceUpToTheGoalAsItIsNow() {
        Clock x = Check.hour("1@100;1@200;");
        x.pass(10);
        x.drop(0);
        x.addFiller(20);
        Check.same("it goes on up to 100", x.value(13), 90);
        x.finish();
        Check.sameText("the goal was dropped", Check.log(x), "0s 10d0 100f0 120s 200e1 201s");
        Clock y = new Clock();
        y.pass(3599);
        y.addElement(5, 3599, 5);
        y.finish();
        Check.sameText("a goal ahead of the silence's end", Check.log(y), "0s 3600e0");
        Check.same("it is a second late", y.element(0, 5), 1);
        Clock z = Check.hour("1@50;");
        z.pass(1);
        z.addElement(5, -1, 5);
        z.pass(49);
        Check.same("a floating one does not end it", z.value(11), 1);
    }

    private static void step3AtMostTenFillers() {
        goesOn("all ten", "1@55;+1;+2;+3;+4;+5;+6;+7;+8;+9;+10;",
            "0f0 1f1 3f2 6f3 10f4 15f5 21f6 28f7 36f8 45f9 55e0 56s");
        goesOn("all but the first", "1@54;+1;+2;+3;+4;+5;+6;+7;+8;+9;+10;",
            "0f1 2f2 5f3 9f4 14f5 20f6 27f7 35f8 44f9 54e0 55f0 56s");
    }

    private static void step4TheFixedOneBeginsInTimeOrLate() {
        goesOn("in time", "10;1@10;", "0e0 10e1 11s");
        goesOn("a second late", "10r9;1@9;", "0e0 10e1 11s");
        goesOn("never early", "10;1@11;", "0e0 10s 11e1 12s");
        goesOn("one after the other", "10@0;10@0;10@0;", "0e0 10e1 20e2 30s");
        goesOn("in their order, not in that of their times", "10@30;10@20;10@10;", "0s 30e0 40e1 50e2 60s");
    }

    private static void step4TheHourIsOver() {
        Clock x = Check.hour("1800r9;1800r9;1800r9;+5;");
        x.pass(3600);
        Check.same("not while an element runs over", x.pass(1800), 1800);
        Check.same("not yet found", x.value(3), 0);
        Check.same("pass(1) finds it", x.pass(1), 0);
        Check.same("over", x.value(3), 1);
        Check.same("1800 seconds late", x.value(9), 1800);
        Check.same("the filler was not played", x.value(6), 1);
        Clock y = Check.hour("1800r9;1800r9;");
        y.pass(3600);
        y.addElement(1, 3599, 0);
        Check.same("a fixed one that was added at 3600", y.finish(), 1);
    }

    private static void onTheAirUpToTheSecondBeforeItsEnd() {
        for (int length = 1; length <= 3; length++) {
            Clock x = new Clock();
            x.addElement(length, -1, 5);
            for (int second = 1; second < length; second++) {
                x.pass(1);
                Check.same("on the air at " + second + " of " + length, x.element(0, 3), 1);
                Check.same("what is left at " + second + " of " + length, x.value(13), length - second);
            }
            x.pass(1);
            Check.same("done at " + length, x.element(0, 3), 2);
            Check.same("nothing is on the air at " + length, x.value(13), 0);
        }
    }

    private static void endsAndBeginsAtTheSameSecond() {
        goesOn("of each kind", "5;5@12;5;+7;+900;", "0e0 5f0 12e1 17e2 22f1 922s");
        goesOn("a silence and a fixed one", "5@5;5@15;", "0s 5e0 10s 15e1 20s");
        Clock x = Check.hour("5;5@12;5;+7;");
        x.pass(23);
        Check.same("no second is lost", x.value(2), 23);
        Check.same("none is silent but the last", x.value(7), 1);
    }

    private static void latenessIs0OrMore() {
        Clock x = Check.hour("1@0;1@0;1@2;1@3599;");
        x.finish();
        Check.sameRow("lateness", e -> x.element(e, 5), 0, 1, 0, 0);
        Check.same("of the hour", x.value(9), 0);
        Clock y = Check.hour("2@3599;");
        y.finish();
        Check.same("of the hour, a second", y.value(9), 1);
    }

    private static void stretchedOnTheAir() {
        Clock x = Check.hour("10;20;1@50;+7;");
        x.pass(5);
        x.stretch(0, 10);
        x.finish();
        Check.sameText("it runs over", Check.log(x), "0e0 20e1 40f0 47s 50e2 51s");
        Clock y = Check.hour("10;20;1@50;+7;");
        y.pass(5);
        y.stretch(0, -4);
        y.finish();
        Check.sameText("it is shortened to end a second later", Check.log(y), "0e0 6e1 26f0 33s 50e2 51s");
        Clock z = Check.hour("10;20;1@50;+7;");
        z.pass(5);
        z.stretch(0, -5);
        z.finish();
        Check.sameText("it is shortened to end now", Check.log(z), "0e0 5e1 25f0 32s 50e2 51s");
    }

    private static void logHasTheSecondAtWhichItIsFound() {
        Clock x = Check.hour("10;20r0;30@35;5;");
        x.pass(5);
        x.drop(3);
        x.stretch(0, 6);
        x.pass(20);
        Check.sameText("by hand at 5, for time at 16", Check.log(x), "0e0 5d3 16d1 16s");
        x.pass(10);
        Check.same("nothing is found at 35", x.value(11), 4);
        x.pass(1);
        Check.same("the fixed one is found by the next call", x.entry(4, 0), 35);
    }

    /** Nothing is promised behind the 512th call, but all up to it. */
    private static void fiveHundredAndTwelveCalls() {
        Clock x = new Clock();
        for (int hour = 1; hour <= 255; hour++) {
            x.finish();
            Check.same("again()", x.again(), hour);
        }
        Check.same("the 511th call", x.undo(), 3);
        Check.same("the 512th call", x.value(12), 254);
        Check.same("no call is left", x.callsLeft(), 0);
        Clock y = Check.hour("1;2;3;");
        while (y.callsLeft() > 1) {
            y.pass(1);
        }
        Check.same("503 passes behind 8 calls", y.value(2), 503);
    }

    private static void manyObjects() {
        for (int n = 1; n <= 300; n++) {
            Clock x = new Clock();
            x.addElement(n, -1, 5);
            Check.same("object " + n, x.finish() + x.element(0, 0), n);
        }
    }
}
