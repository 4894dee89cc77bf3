/** Promises 22 to 26: the calls that the document puts under "text" and "state". */
public final class TextTests {
    private static final String TWELVE = "1;1;1;1;1;1;1;1;1;1;1;1;";
    private static final String TEN = "+1;+1;+1;+1;+1;+1;+1;+1;+1;+1;";

    public static void main(String[] args) {
        p22Append();
        p23ClearText();
        p24Parse();
        p24ParseMakesAnew();
        p24SyntaxErrors();
        p24OutOfRange();
        p25Undo();
        p25UndoKeepsText();
        p26Digest();
        Check.end("TextTests");
    }

    private static void p22Append() {
        Clock x = new Clock();
        int[] wrong = {-1, 128, 255, Integer.MIN_VALUE, Integer.MAX_VALUE};
        for (int w : wrong) {
            Check.failsArgument("append(" + w + ")", x, c -> c.append(w));
        }
        Check.same("append(0)", x.append(0), 1);
        Check.same("append(127)", x.append(127), 2);
        for (int n = 3; n <= 100; n++) {
            Check.same("append number " + n, x.append(n), n);
        }
        Check.failsState("a 101st byte", x, c -> c.append(59));
        Check.failsArgument("a 101st byte that is wrong", x, c -> c.append(128));
        Check.same("append saves nothing", Check.saved(x), 0);
        Check.same("100 bytes", x.clearText(), 100);
    }

    private static void p23ClearText() {
        Clock x = new Clock();
        Check.same("clearText() of no text", x.clearText(), 0);
        Check.type(x, "10;+5;");
        Check.same("clearText()", x.clearText(), 6);
        Check.same("clearText() again", x.clearText(), 0);
        Check.same("clearText() saves nothing", Check.saved(x), 0);
        Check.same("the text is empty", x.parse(), 0);
        Check.same("append after it", x.append(49), 1);
    }

    private static void p24Parse() {
        Clock x = new Clock();
        Check.same("parse() of no text", x.parse(), 0);
        Check.undoable("parse() of no text", x, c -> c.parse());
        Check.same("parse()", Check.parse(x, "0300;1@0;0001@0001r0;1800r9;1800@3599r5;9r7;+1;+001;+900;"), 6);
        int[][] due = {{300, -1, 5}, {1, 0, 5}, {1, 1, 0}, {1800, -1, 9}, {1800, 3599, 5}, {9, -1, 7}};
        for (int e = 0; e < due.length; e++) {
            for (int what = 0; what < 3; what++) {
                Check.same("parsed: element(" + e + ", " + what + ")", x.element(e, what), due[e][what]);
            }
            Check.same("parsed: element " + e + " waits", x.element(e, 3), 0);
        }
        int[] fillers = {1, 1, 900};
        Check.same("parsed: the fillers", x.value(1), 3);
        for (int f = 0; f < fillers.length; f++) {
            Check.same("parsed: filler(" + f + ", 0)", x.filler(f, 0), fillers[f]);
        }
        Check.same("fillers alone", Check.parse(x, TEN), 0);
        Check.same("ten fillers", x.value(1), 10);
        Check.same("fillers ahead of elements", Check.parse(x, TEN + TWELVE), 12);
        Check.same("a text of 100 bytes", Check.parse(x, "1800@3599r9;1800@3599r9;1800@3599r9;1800@3599r9;1800@3599r9;1800@3599r9;1800@3599r9;1800@3599r9;1r1;"), 9);
        Check.same("it had 100 bytes", x.clearText(), 100);
    }

    private static void p24ParseMakesAnew() {
        Clock x = Check.hour("100@5;10@50;20r0;+30;");
        x.stretch(0, 1800);
        x.finish();
        x.again();
        x.finish();
        Check.undoable("parse() of an hour that is over", x, c -> c.parse());
        Check.same("the text is still there", x.parse(), 3);
        int[] due = {3, 1, 0, 0, 3, 0, 1, 0, 5, -1, 0, 0, 0, 0};
        for (int what = 0; what < due.length; what++) {
            Check.same("made anew: value(" + what + ")", x.value(what), due[what]);
        }
        Check.same("the length is that of the text", x.element(0, 0), 100);
        Check.same("nothing has begun", x.element(0, 4), -1);
        x.pass(30);
        Check.same("parse() with something on the air", x.parse(), 3);
        Check.same("nothing is on the air", x.value(13), 0);
        x.pass(30);
        String before = Check.view(x.twin());
        long digest = x.digest();
        x.append('?');
        Check.same("a wrong text", x.parse(), -10 - 21);
        Check.sameText("a wrong text changes nothing", Check.view(x.twin()), before);
        x.clearText();
        Check.type(x, "100@5;10@50;20r0;+30;");
        Check.same("a wrong text saves nothing", x.digest(), digest);
        Clock y = new Clock();
        Check.parse(y, "1;2;3");
        Check.same("a part of a wrong text makes nothing", y.value(0), 0);
        Check.same("it saves nothing", Check.saved(y), 0);
    }

    private static void error(String text, int position) {
        Clock x = new Clock();
        Check.same("parse() of '" + text + "'", Check.parse(x, text), -10 - position);
        Check.same("elements after '" + text + "'", x.value(0), 0);
        Check.same("saved after '" + text + "'", Check.saved(x), 0);
        Check.same("the text stays", x.clearText(), text.length());
    }

    private static void p24SyntaxErrors() {
        error("1", 1);
        error("1800", 4);
        error("1@", 2);
        error("1@2", 3);
        error("1r", 2);
        error("1r5", 3);
        error("+", 1);
        error("+1", 2);
        error("1;+", 3);
        error(";", 0);
        error("1;;", 2);
        error(" 1;", 0);
        error("1 ;", 1);
        error("x", 0);
        error("@1;", 0);
        error("r1;", 0);
        error("-1;", 0);
        error("1@;", 2);
        error("1@r1;", 2);
        error("1@@", 2);
        error("1@1@1;", 3);
        error("1r;", 2);
        error("1r@", 2);
        error("1r1@1;", 3);
        error("1r10;", 3);
        error("1r1r", 3);
        error("+;", 1);
        error("+x", 1);
        error("++", 1);
        error("+1@1;", 2);
        error("+1r1;", 2);
        error("1+", 1);
        error("1:", 1);
        error("1/", 1);
        error("/", 0);
        error(":", 0);
        error("1R1;", 1);
        error("01800", 4);
        error("18000;", 4);
        error("1@00001;", 6);
        error("+0001;", 4);
        error("1;2;+3;4x", 8);
        error(TWELVE + "1;", 24);
        error(TWELVE + "x", 24);
        error(TWELVE + "+1", 26);
        error(TEN + "+1;", 30);
        error(TEN + "1", 31);
        error(TEN + TWELVE + "1", 54);
        error(TEN + TWELVE + "+", 54);
    }

    private static void p24OutOfRange() {
        error("0;", 0);
        error("0000;", 0);
        error("0", 0);
        error("0x", 0);
        error("1801;", 0);
        error("1801", 0);
        error("1801@", 0);
        error("1801r", 0);
        error("9999 ", 0);
        error("99999", 4);
        error("0+", 0);
        error("1@3600;", 2);
        error("1@3600", 2);
        error("1@9999r", 2);
        error("1@3600x", 2);
        error("1@36000", 6);
        error("1801@3600;", 0);
        error("+0;", 1);
        error("+000", 1);
        error("+901;", 1);
        error("+901", 1);
        error("+901r", 1);
        error("+9010", 4);
        error("5;+1;1801;", 5);
        error("5;+1;+901;", 6);
        error("5;7@3600;", 4);
    }

    private static void p25Undo() {
        Clock x = new Clock();
        Check.failsState("undo() of nothing", x, c -> c.undo());
        x.addElement(1, -1, 5);
        Check.same("one saved state", Check.saved(x), 1);
        x.addElement(2, -1, 5);
        x.addElement(3, -1, 5);
        x.addElement(4, -1, 5);
        Check.same("four saved states", Check.saved(x), 4);
        x.addElement(5, -1, 5);
        x.addElement(6, -1, 5);
        Check.same("four at most", Check.saved(x), 4);
        Check.same("undo()", x.undo(), 3);
        Check.same("five elements", x.value(0), 5);
        Check.same("undo()", x.undo(), 2);
        Check.same("four elements", x.value(0), 4);
        x.addFiller(9);
        Check.same("three saved states", Check.saved(x), 3);
        Check.same("undo()", x.undo(), 2);
        Check.same("no filler", x.value(1), 0);
        Check.same("undo()", x.undo(), 1);
        Check.same("undo()", x.undo(), 0);
        Check.same("two elements", x.value(0), 2);
        Check.same("their lengths", x.element(1, 0), 2);
        Check.failsState("undo() of no more", x, c -> c.undo());
        undoBringsAllBack();
    }

    private static void undoBringsAllBack() {
        Clock x = Check.hour("100@5;10@50;20r0;+30;+40;");
        x.finish();
        x.again();
        x.pass(200);
        String at200 = Check.view(x.twin());
        x.finish();
        String over = Check.view(x.twin());
        x.again();
        String anew = Check.view(x.twin());
        Check.parse(x, "7;");
        x.undo();
        Check.sameText("undo() of parse()", Check.view(x.twin()), anew);
        x.undo();
        Check.sameText("undo() of again()", Check.view(x.twin()), over);
        x.undo();
        Check.sameText("undo() of finish()", Check.view(x.twin()), at200);
        Check.same("one more is left", Check.saved(x), 1);
        x.pass(3600);
        Check.sameText("what was brought back goes on", Check.view(x.twin()), over);
    }

    private static void p25UndoKeepsText() {
        Clock x = Check.hour("10;");
        x.append('2');
        Check.same("undo()", x.undo(), 0);
        Check.same("the elements are those from before", x.value(0), 0);
        Check.same("the text stays", x.append(';'), 5);
        Check.same("and can be read", x.parse(), 2);
        Check.same("its second element", x.element(1, 0), 2);
    }

    private static void p26Digest() {
        Clock x = new Clock();
        sameDigest("new", x, 0, 0);
        Check.type(x, "100@5;10@50;20r0;+30;+40;");
        sameDigest("with a text", x, 25, 0);
        x.parse();
        sameDigest("with an hour", x, 25, 1);
        x.pass(60);
        sameDigest("on the way", x, 25, 2);
        x.drop(2);
        x.pass(100);
        sameDigest("later", x, 25, 4);
        x.finish();
        sameDigest("over", x, 25, 4);
        x.undo();
        x.clearText();
        sameDigest("after undo()", x, 0, 3);
        long fresh = 3559;
        int[] values = {0, 0, 0, 0, 0, 0, 0, 0, 0, 3600, -1, 0, 0, 0, 0, 3600, 0};
        for (int v : values) {
            fresh = 31 * fresh + v;
        }
        Check.same("the digest of a new object", new Clock().digest(), fresh);
    }

    private static void sameDigest(String when, Clock x, int textLength, int saved) {
        Check.same("digest() " + when, x.digest(), Check.digestOf(x));
        Check.same("the text " + when, Check.textLength(x), textLength);
        Check.same("the saved states " + when, Check.saved(x), saved);
    }
}
