/** Promises 13 to 21: the calls that the document puts under "times". */
public final class TimesTests {
    public static void main(String[] args) {
        p13BackTime();
        p14BeginOf();
        p15EndOfHour();
        p16Drops();
        p17Silence();
        p18Choice();
        p18ChoiceTies();
        p19NextFull();
        p20BestDrop();
        p21Sounding();
        askingChangesNothing();
        Check.end("TimesTests");
    }

    private static void p13BackTime() {
        Clock x = Check.hour("100;200;50@1000;300;400@2000;");
        int[] due = {700, 800, 650 + 0, 1700, 3200};
        due[2] = 2000 - 350;
        for (int e = 0; e < due.length; e++) {
            Check.same("backTime(" + e + ")", x.backTime(e), due[e]);
        }
        x.drop(1);
        Check.same("backTime(0) without the dropped one", x.backTime(0), 900);
        Check.same("backTime of a dropped one", x.backTime(1), -10000);
        x.drop(2);
        Check.same("backTime(0) past the dropped fixed one", x.backTime(0), 2000 - 400);
        x.pass(1);
        Check.same("backTime of the one on the air", x.backTime(0), -10000);
        x.pass(200);
        Check.same("backTime of one that is done", x.backTime(0), -10000);
        Clock y = Check.hour("10;20@5;");
        Check.same("too late in any case", y.backTime(0), -5);
        Clock z = Check.hour("1800;1800;1800;1800;1800;1800;1800;1800;1@0;");
        Check.same("far below 0", z.backTime(0), -14400);
        Check.same("far below 0, the last one", z.backTime(7), -1800);
        Check.numbersBelow("backTime", z, 9, (c, e) -> c.backTime(e));
    }

    private static void p14BeginOf() {
        Clock x = Check.hour("100;200r1;50@250;300;+30;");
        int[] due = {0, -1, 250, 300};
        for (int e = 0; e < due.length; e++) {
            Check.same("beginOf(" + e + ")", x.beginOf(e), due[e]);
        }
        x.pass(100);
        Check.same("beginOf of one that is done", x.beginOf(0), 0);
        Check.same("beginOf of one that was dropped", x.beginOf(1), -1);
        x.stretch(2, 500);
        Check.same("beginOf behind a stretched one", x.beginOf(3), 800);
        x.pass(200);
        Check.same("beginOf of the one on the air", x.beginOf(2), 250);
        x.stretch(2, -100);
        Check.same("beginOf behind the one on the air", x.beginOf(3), 700);
        Clock y = Check.hour("10@3599;5r9;");
        Check.same("beginOf behind the end of the hour", y.beginOf(1), 3609);
        y.finish();
        Check.same("beginOf when it is over", y.beginOf(1), 3609);
        Check.numbersBelow("beginOf", y, 2, (c, e) -> c.beginOf(e));
    }

    private static void p15EndOfHour() {
        Clock x = Check.hour("600;600@3300;+200;");
        Check.same("endOfHour()", x.endOfHour(), 3900);
        x.stretch(1, -300);
        Check.same("endOfHour() in time", x.endOfHour(), 3600);
        x.stretch(1, 1);
        x.pass(3400);
        Check.same("endOfHour() on the way", x.endOfHour(), 3601);
        x.finish();
        Check.same("endOfHour() when it is over", x.endOfHour(), 3601);
    }

    private static void p16Drops() {
        Clock x = Check.hour("100r1;200r1;300r9;10@350;10r0;1800r8;1800r8;");
        Check.same("drops()", x.drops(), 1 + 2 + 16 + 64);
        x.drop(0);
        Check.same("drops() without those that are dropped", x.drops(), 2 + 16 + 64);
        x.pass(301);
        Check.same("drops() later", x.drops(), 16 + 64);
        x.finish();
        Check.same("drops() when it is over", x.drops(), 0);
        Clock y = Check.hour("1;1;1;1;1;1;1;1;1;1;1;2@11r0;");
        Check.same("none", y.drops(), 0);
        y.stretch(0, 1);
        Check.same("of equal ranks the last one", y.drops(), 1 << 10);
    }

    private static void p17Silence() {
        Clock x = Check.hour("100;10@200;+30;+500;");
        Check.same("silence()", x.silence(), 70 + 3600 - 210 - 500);
        x.pass(150);
        Check.same("silence() within a silence", x.silence(), 50 + 3600 - 210 - 500);
        Check.same("the silence so far", x.value(7), 20);
        x.pass(3450);
        Check.same("silence() at the end", x.silence(), 0);
        x.finish();
        Check.same("silence() when it is over", x.silence(), 0);
        Check.same("silence() of an empty hour", new Clock().silence(), 3600);
    }

    private static void p18Choice() {
        Clock x = Check.hour("+60;+40;+90;+500;");
        int[][] due = {{1, 0}, {39, 0}, {40, 2}, {59, 2}, {60, 1}, {89, 1}, {90, 4}, {99, 4}, {100, 3}, {130, 6}, {150, 5},
            {189, 5}, {190, 7}, {499, 7}, {500, 8}, {689, 13}, {690, 15}, {3600, 15}};
        for (int[] d : due) {
            Check.same("choice(" + d[0] + ")", x.choice(d[0]), d[1]);
        }
        int[] wrong = {0, -1, 3601, Integer.MIN_VALUE, Integer.MAX_VALUE};
        for (int w : wrong) {
            Check.failsArgument("choice(" + w + ")", x, c -> c.choice(w));
        }
        x.addElement(10, 70, 5);
        x.pass(1);
        Check.same("choice(3600) without the one on the air", x.choice(3600), 14);
        x.pass(60);
        Check.same("choice(3600) without the one that is done", x.choice(3600), 14);
        Check.same("choice(60) without it", x.choice(60), 2);
        Check.same("choice without fillers", new Clock().choice(3600), 0);
    }

    private static void p18ChoiceTies() {
        Clock x = Check.hour("+10;+20;+30;+40;+50;+60;");
        Check.same("one instead of two", x.choice(60), 32);
        Check.same("of two pairs the least number", x.choice(70), 8 + 4);
        Check.same("a pair of the least number", x.choice(90), 16 + 8);
        Check.same("the pair for 80", x.choice(80), 4 + 16);
        Clock y = Check.hour("+5;+5;+5;+5;+5;+5;+5;+5;+5;+5;");
        Check.same("equal ones, the first", y.choice(9), 1);
        Check.same("equal ones, the first three", y.choice(19), 7);
        Check.same("all ten", y.choice(50), 1023);
        Clock z = Check.hour("+900;+900;+900;+900;+900;");
        Check.same("four of five", z.choice(3600), 15);
        Clock w = Check.hour("+1;+2;+4;+8;+16;+32;+64;+128;+256;+512;");
        for (int gap = 1; gap <= 1023; gap += 7) {
            Check.same("powers of two: choice(" + gap + ")", w.choice(gap), gap);
        }
    }

    private static void p19NextFull() {
        Clock x = Check.hour("+60;+40;+90;+500;");
        int[][] due = {{0, 40}, {39, 40}, {40, 60}, {60, 90}, {90, 100}, {100, 130}, {130, 150}, {150, 190}, {190, 500},
            {500, 540}, {650, 690}, {689, 690}, {690, -1}, {3600, -1}};
        for (int[] d : due) {
            Check.same("nextFull(" + d[0] + ")", x.nextFull(d[0]), d[1]);
        }
        Clock y = Check.hour("+900;+900;+900;+900;+900;+900;+900;+900;+900;+900;");
        Check.same("more than 3600", y.nextFull(3600), 4500);
        Check.same("3600 itself", y.nextFull(3599), 3600);
        Clock z = Check.hour("+7;+9;9@8;");
        z.pass(1);
        Check.same("not the one on the air", z.nextFull(0), 9);
        z.pass(20);
        Check.same("none is left", z.nextFull(0), -1);
        Check.same("nextFull without fillers", new Clock().nextFull(0), -1);
        int[] wrong = {-1, 3601, Integer.MIN_VALUE, Integer.MAX_VALUE};
        for (int w : wrong) {
            Check.failsArgument("nextFull(" + w + ")", x, c -> c.nextFull(w));
        }
    }

    private static void p20BestDrop() {
        Check.same("bestDrop() of an empty hour", new Clock().bestDrop(), -1);
        Check.same("nothing is gained", Check.hour("10;20;").bestDrop(), -1);
        Clock x = Check.hour("1800r9;1800r8;900r8;900r8;");
        Check.same("three instead of two, of two the lowest one", x.bestDrop(), 0);
        Check.same("without it three are done", doneAtTheEnd(x, 0), 3);
        Clock y = Check.hour("1000r8;1800r9;650r8;650r8;650r8;650r8;");
        Check.same("a long one in the middle", y.bestDrop(), 1);
        Clock z = Check.hour("700r9;1800r9;400r8;400r8;400r8;400r8;400r8;400r8;");
        Check.same("the most, not the first that is better", z.bestDrop(), 1);
        z.drop(1);
        Check.same("nothing more is gained", z.bestDrop(), -1);
        Clock w = Check.hour("1500@0;300r8;300r8;300r8;10@1500;");
        Check.same("a fixed one", w.bestDrop(), 0);
        w.pass(1);
        Check.same("the one on the air cannot be dropped", w.bestDrop(), 4);
        w.finish();
        Check.same("bestDrop() when it is over", w.bestDrop(), -1);
        Clock v = Check.hour("500r8;500r9;100r3;100r3;100r3;10@700;");
        Check.same("the fixed one at the end", v.bestDrop(), 5);
        Clock u = Check.hour("400r9;100r8;300r9;100r8;100r8;10@800;");
        Check.same("one more, of three the lowest one", u.bestDrop(), 0);
    }

    /** How many are done when the hour is over; undone afterwards. */
    private static int doneAtTheEnd(Clock x, int dropped) {
        x.drop(dropped);
        x.finish();
        int done = 0;
        for (int e = 0; e < x.value(0); e++) {
            done += x.element(e, 3) == 2 ? 1 : 0;
        }
        x.undo();
        x.undo();
        return done;
    }

    private static void p21Sounding() {
        Clock x = Check.hour("10;5@13;");
        Check.sameDouble("at 0", x.sounding(), 1.0);
        x.pass(12);
        Check.sameDouble("at 12", x.sounding(), 10.0 / 12.0);
        x.pass(1);
        Check.sameDouble("at 13", x.sounding(), 10.0 / 13.0);
        x.finish();
        Check.sameDouble("at the end", x.sounding(), 15.0 / 3600.0);
        Clock y = new Clock();
        y.pass(7);
        Check.sameDouble("silence alone", y.sounding(), 0.0);
        Clock z = Check.hour("7;");
        z.pass(7);
        Check.sameDouble("no silence", z.sounding(), 1.0);
        Clock w = Check.hour("+900;");
        w.pass(1000);
        Check.sameDouble("fillers sound", w.sounding(), 0.9);
    }

    private static void askingChangesNothing() {
        Clock x = Check.hour("100r1;200r1;300r9;10@350;10r0;1800r8;1800r8;+5;+7;");
        x.pass(2);
        Check.asks("backTime", x, c -> c.backTime(3));
        Check.asks("beginOf", x, c -> c.beginOf(3));
        Check.asks("endOfHour", x, c -> c.endOfHour());
        Check.asks("drops", x, c -> c.drops());
        Check.asks("silence", x, c -> c.silence());
        Check.asks("choice", x, c -> c.choice(12));
        Check.asks("nextFull", x, c -> c.nextFull(5));
        Check.asks("bestDrop", x, c -> c.bestDrop());
        Check.asks("sounding", x, c -> c.sounding());
        Check.asks("value", x, c -> c.value(5));
        Check.asks("digest", x, c -> c.digest());
    }
}
