/** The edges of the promises 22 to 24, a method for each sentence of the document that names one. */
public final class TextEdgeTests {
    private static final String TWELVE = "1;1;1;1;1;1;1;1;1;1;1;1;";
    private static final String TEN = "+1;+1;+1;+1;+1;+1;+1;+1;+1;+1;";
    private static final String DIGITS = "0123456789";

    public static void main(String[] args) {
        p22ValueFrom0To127();
        p22AtMost100Bytes();
        p22ArgumentComesBeforeState();
        p22ChangesTheTextAlone();
        p23ReturnsTheLengthThatItHad();
        p23ChangesTheTextAlone();
        p24ThereMayBeNoItems();
        p24LengthOfOneToFourDigits();
        p24TimeOfOneToFourDigits();
        p24RankIsADigit();
        p24FillerOfOneToThreeDigits();
        p24ZerosInFront();
        p24WithoutTimeAndRank();
        p24TwelveElementsAtMost();
        p24TenFillersAtMost();
        p24InAnyOrder();
        p24OneHundredBytes();
        p24EachByteAtEachPlace();
        p24EndsTooEarly();
        p24ADigitTooMany();
        p24OutOfItsRange();
        p24OutOfItsRangeIsFoundByWhateverFollows();
        p24TheFirstErrorCounts();
        p24ErrorChangesNothing();
        p24MakesTheHourThatOfTheText();
        p24AskingBeforeLeavesNoTrace();
        p24TheTextStays();
        p24IsUndoable();
        Check.end("TextEdgeTests");
    }

    /** The text is refused with this position, and nothing else is another then. */
    private static void error(String text, int position) {
        Clock x = Check.hour("7@9;+3;");
        x.pass(5);
        Check.type(x, text);
        Check.same("parse() of '" + text + "'", x.twin().parse(), -10 - position);
        Check.asks("parse() of '" + text + "'", x, c -> c.parse());
    }

    private static Clock right(String text, int elements, int fillers) {
        Clock x = new Clock();
        Check.type(x, text);
        Check.same("parse() of '" + text + "'", x.parse(), elements);
        Check.same("the elements of '" + text + "'", x.value(0), elements);
        Check.same("the fillers of '" + text + "'", x.value(1), fillers);
        return x;
    }

    private static String repeated(String text, int times) {
        StringBuilder all = new StringBuilder();
        for (int n = 0; n < times; n++) {
            all.append(text);
        }
        return all.toString();
    }

    // ---- promise 22

    private static void p22ValueFrom0To127() {
        Check.argumentFrom("append", new Clock(), 0, 127, (c, value) -> c.append(value));
        for (int value = 0; value <= 127; value++) {
            Check.same("append(" + value + ")", new Clock().append(value), 1);
        }
    }

    private static void p22AtMost100Bytes() {
        Clock x = new Clock();
        for (int n = 1; n <= 100; n++) {
            Check.same("append number " + n, x.append(59), n);
        }
        Check.failsState("append number 101", x, c -> c.append(59));
        Check.failsState("append number 101 of 0", x, c -> c.append(0));
        Check.same("100 bytes", x.clearText(), 100);
        Check.same("the first one again", x.append(59), 1);
    }

    private static void p22ArgumentComesBeforeState() {
        Clock x = new Clock();
        Check.append(x, repeated("1", 100));
        Check.failsArgument("append(128) at 100 bytes", x, c -> c.append(128));
        Check.failsArgument("append(-1) at 100 bytes", x, c -> c.append(-1));
        Check.failsState("append(127) at 100 bytes", x, c -> c.append(127));
    }

    private static void p22ChangesTheTextAlone() {
        Clock x = Check.hour("5;6@50;+7;");
        x.pass(8);
        Check.savesNothing("append", x, c -> c.append('1'));
        x.finish();
        Check.savesNothing("append when it is over", x, c -> c.append('1'));
    }

    // ---- promise 23

    private static void p23ReturnsTheLengthThatItHad() {
        for (int length = 0; length <= 100; length += 10) {
            Clock x = new Clock();
            Check.append(x, repeated(";", length));
            Check.same("clearText()", x.clearText(), length);
            Check.same("clearText() again", x.clearText(), 0);
            Check.same("then there are no items", x.parse(), 0);
            Check.same("the next byte is the first one", x.append('x'), 1);
        }
    }

    private static void p23ChangesTheTextAlone() {
        Clock x = Check.hour("5;6@50;+7;");
        x.pass(8);
        Check.savesNothing("clearText()", x, c -> c.clearText());
        x.clearText();
        Check.savesNothing("clearText() of nothing", x, c -> c.clearText());
    }

    // ---- promise 24

    private static void p24ThereMayBeNoItems() {
        right("", 0, 0);
        Clock x = Check.hour("5;6@50;+7;");
        x.pass(8);
        x.clearText();
        Check.same("parse() of no text", x.parse(), 0);
        Check.sameText("an hour as a new one", Check.view(x.twin()), Check.view(new Clock()));
    }

    private static void p24LengthOfOneToFourDigits() {
        int[] lengths = {1, 9, 10, 99, 100, 999, 1000, 1799, 1800};
        for (int length : lengths) {
            Check.same("the length", right(length + ";", 1, 0).element(0, 0), length);
        }
        error("0;", 0);
        error("1801;", 0);
        error("9999;", 0);
        error("10000;", 4);
    }

    private static void p24TimeOfOneToFourDigits() {
        int[] times = {0, 1, 9, 10, 99, 100, 999, 1000, 3598, 3599};
        for (int time : times) {
            Clock x = right("5@" + time + ";", 1, 0);
            Check.same("the time", x.element(0, 1), time);
            Check.same("the rank", x.element(0, 2), 5);
            Clock y = right("5@" + time + "r3;", 1, 0);
            Check.same("the time with a rank", y.element(0, 1), time);
            Check.same("the rank with a time", y.element(0, 2), 3);
        }
        error("5@3600;", 2);
        error("5@9999;", 2);
        error("5@3600r3;", 2);
        error("5@10000;", 6);
        error("5@;", 2);
    }

    private static void p24RankIsADigit() {
        for (int rank = 0; rank <= 9; rank++) {
            Clock x = right("5r" + rank + ";", 1, 0);
            Check.same("the rank", x.element(0, 2), rank);
            Check.same("the time", x.element(0, 1), -1);
        }
        error("5r;", 2);
        error("5r00;", 3);
        error("5r10;", 3);
    }

    private static void p24FillerOfOneToThreeDigits() {
        int[] lengths = {1, 9, 10, 99, 100, 899, 900};
        for (int length : lengths) {
            Check.same("the filler", right("+" + length + ";", 0, 1).filler(0, 0), length);
        }
        error("+0;", 1);
        error("+901;", 1);
        error("+999;", 1);
        error("+1000;", 4);
        error("+0001;", 4);
        error("+;", 1);
    }

    private static void p24ZerosInFront() {
        Clock x = right("01;001;0001;1@00;1@0000;1@0059;+01;+001;", 6, 2);
        Check.sameRow("the lengths", e -> x.element(e, 0), 1, 1, 1, 1, 1, 1);
        Check.sameRow("the times", e -> x.element(e, 1), -1, -1, -1, 0, 0, 59);
        Check.sameRow("the fillers", f -> x.filler(f, 0), 1, 1);
        error("00;", 0);
        error("0000;", 0);
        error("00001;", 4);
        error("1@00000;", 6);
        error("+00;", 1);
        error("+000;", 1);
    }

    private static void p24WithoutTimeAndRank() {
        Clock x = right("5;5@7;5r3;5@7r3;", 4, 0);
        Check.sameRow("the times", e -> x.element(e, 1), -1, 7, -1, 7);
        Check.sameRow("the ranks", e -> x.element(e, 2), 5, 5, 3, 3);
        Check.sameRow("they wait", e -> x.element(e, 3), 0, 0, 0, 0);
        error("5r3@7;", 3);
        error("5@7@7;", 3);
        error("5r3r3;", 3);
        error("@7;", 0);
        error("r3;", 0);
    }

    private static void p24TwelveElementsAtMost() {
        right(TWELVE, 12, 0);
        right(TWELVE + "+1;", 12, 1);
        error(TWELVE + "1;", 24);
        error(TWELVE + "0;", 24);
        error(TWELVE + "1", 24);
        error(TWELVE + "+1;9999;", 27);
        error(TWELVE + "+1;1;", 27);
    }

    private static void p24TenFillersAtMost() {
        right(TEN, 0, 10);
        right(TEN + "1;", 1, 10);
        error(TEN + "+1;", 30);
        error(TEN + "+0;", 30);
        error(TEN + "+", 30);
        error(TEN + "1;+1;", 32);
    }

    private static void p24InAnyOrder() {
        right(TWELVE + TEN, 12, 10);
        right(TEN + TWELVE, 12, 10);
        Clock x = right(repeated("3;+4;", 10) + "3;3;", 12, 10);
        Check.same("the last element", x.element(11, 0), 3);
        Check.same("the last filler", x.filler(9, 0), 4);
        error(TWELVE + TEN + "1", 54);
        error(TWELVE + TEN + "+", 54);
        error(TWELVE + TEN + ";", 54);
        error(TEN + TWELVE + "1;", 54);
    }

    private static void p24OneHundredBytes() {
        String almost = repeated("1800@3599r9;", 8);
        Clock x = right(almost + "001;", 9, 0);
        Check.same("the last one", x.element(8, 0), 1);
        Check.same("100 bytes", x.clearText(), 100);
        error(almost + "0001", 100);
        error(almost + "+001", 100);
        error(almost + "1;1x", 99);
        error(almost + "1;0;", 98);
        error(almost + "1801", 96);
        error(repeated(";", 100), 0);
    }

    /** The texts up to a place, and behind "|" the bytes that can stand there. */
    private static void p24EachByteAtEachPlace() {
        String[] places = {"|" + DIGITS + "+", "1|" + DIGITS + "@r;", "12|" + DIGITS + "@r;", "123|" + DIGITS + "@r;",
            "1234|@r;", "1@|" + DIGITS, "1@2|" + DIGITS + "r;", "1@23|" + DIGITS + "r;", "1@234|" + DIGITS + "r;",
            "1@2345|r;", "1r|" + DIGITS, "1r2|;", "1@2r|" + DIGITS, "1@2r3|;", "1@2345r|" + DIGITS, "1@2345r6|;",
            "+|" + DIGITS, "+1|" + DIGITS + ";", "+12|" + DIGITS + ";", "+123|;", "1;|" + DIGITS + "+", "+1;|" + DIGITS + "+",
            TWELVE + "|+", TEN + "|" + DIGITS, TEN + TWELVE + "|"};
        for (String place : places) {
            int bar = place.indexOf('|');
            String before = place.substring(0, bar);
            for (int value = 0; value <= 127; value++) {
                eachByteAt(before, value, place.indexOf(value, bar + 1) >= 0);
            }
        }
    }

    private static void eachByteAt(String before, int value, boolean canStand) {
        Clock x = new Clock();
        Check.type(x, before);
        x.append(value);
        int read = 1;
        boolean itemCouldBegin = before.isEmpty() || before.endsWith(";") || before.endsWith("+");
        if (value == '0' && itemCouldBegin) {
            // A zero alone would be out of its range, and that would be told of the same index.
            x.append('1');
            read = 2;
        }
        // A further byte that never can stand tells whether the byte before it could.
        x.append(127);
        int due = canStand ? before.length() + read : before.length();
        Check.same("the byte " + value + " behind '" + before + "'", x.parse(), -10 - due);
        Check.same("nothing is read", x.value(0) + x.value(1), 0);
    }

    private static void p24EndsTooEarly() {
        String[] texts = {"1", "12", "123", "1234", "1@", "1@2", "1@23", "1@234", "1@2345", "1r", "1r2", "1@2r", "1@2r3",
            "+", "+1", "+12", "+123", "1;2", "1;2@", "1;2r", "1;+", "+1;+1", "1@3599", "1800", "+900", "0001", "1@0"};
        for (String text : texts) {
            error(text, text.length());
        }
        error(TEN + TWELVE.substring(0, 23), 53);
    }

    private static void p24ADigitTooMany() {
        error("12345", 4);
        error("00001;", 4);
        error("99990", 4);
        error("1@12345", 6);
        error("1@99990;", 6);
        error("1r12", 3);
        error("1@2r12", 5);
        error("+1234", 4);
        error("+9990;", 4);
        error("1;12345;", 6);
        error("1;+1234;", 6);
    }

    private static void p24OutOfItsRange() {
        error("0", 0);
        error("0000", 0);
        error("1801", 0);
        error("1801;", 0);
        error("5@3600", 2);
        error("5@3600;", 2);
        error("+0", 1);
        error("+901", 1);
        error("+901;", 1);
        error("5;+5;0;", 5);
        error("5;+5;0001;1801;", 10);
        error("5;+5;5@3600;", 7);
        error("5;+5;+0;", 6);
        error("5;+5;5@3599;+901;", 13);
    }

    private static void p24OutOfItsRangeIsFoundByWhateverFollows() {
        for (int value = 0; value <= 127; value++) {
            boolean digit = DIGITS.indexOf(value) >= 0;
            found("1801", value, digit ? 4 : 0);
            found("0000", value, digit ? 4 : 0);
            found("5;9@3600", value, digit ? 8 : 4);
            found("5;+901", value, digit ? 6 : 3);
            found("5;+000", value, digit ? 6 : 3);
            if (!digit) {
                found("0", value, 0);
                found("00", value, 0);
                found("+00", value, 1);
            }
        }
    }

    private static void found(String before, int value, int position) {
        Clock x = new Clock();
        Check.type(x, before);
        x.append(value);
        Check.same("parse() of '" + before + "' and the byte " + value, x.parse(), -10 - position);
    }

    private static void p24TheFirstErrorCounts() {
        error("1801@3600;", 0);
        error("1x;0;", 1);
        error("0;x", 0);
        error("x0;", 0);
        error("5@3600r10;", 2);
        error("5@3599r10;", 8);
        error("1;;0;", 2);
        error("1 ;", 1);
        error(" 1;", 0);
        error("1; ", 2);
        error("1@ 2;", 2);
        error("1\n", 1);
        error("\0", 0);
        error("-1;", 0);
        error("1.", 1);
        error("1R5;", 1);
    }

    private static void p24ErrorChangesNothing() {
        Clock x = Check.hour("10;20r0;9@15;+30;");
        x.pass(5);
        x.drop(2);
        x.pass(10);
        String[] texts = {"1;2;3", "x", TWELVE + "1;", TEN + "+", "+900;1801;", "1@3600;", TWELVE + TEN + "x"};
        for (String text : texts) {
            Check.type(x, text);
            Check.asks("parse() of '" + text + "'", x, c -> c.parse());
        }
    }

    private static void p24MakesTheHourThatOfTheText() {
        Clock x = Check.hour("10@3;20r9;9@15;+30;");
        x.stretch(1, 100);
        x.finish();
        x.again();
        x.finish();
        x.again();
        x.drop(2);
        x.pass(40);
        Check.same("parse() on the way", x.twin().parse(), 3);
        x.finish();
        Check.same("parse() when it is over", x.parse(), 3);
        Check.sameText("as in a new object", Check.view(x), Check.view(Check.hour("10@3;20r9;9@15;+30;")));
        Clock y = Check.hour("10@3;20r9;9@15;+30;");
        y.pass(40);
        Check.parse(y, "7;");
        Check.sameRow("what was there before is not there", what -> y.value(what), 1, 0, 0, 0, 1, 0, 0, 0, 3600, -1, 0, 0, 0, 0);
        Check.same("it can be passed", y.pass(7), 7);
    }

    private static void p24AskingBeforeLeavesNoTrace() {
        String text = "10@3;20r0;9@15;+30;+4;";
        Clock x = Check.hour(text);
        x.finish();
        x.again();
        Check.view(x);
        Check.same("parse() behind questions", x.parse(), 3);
        Check.sameText("as in a new object", Check.view(x), Check.view(Check.hour(text)));
        Check.parse(x, "x");
        Check.same("parse() behind an error", Check.parse(x, text), 3);
        Check.sameText("as in a new object, behind an error", Check.view(x), Check.view(Check.hour(text)));
    }

    private static void p24TheTextStays() {
        Clock x = new Clock();
        Check.type(x, "3;+2;");
        Check.same("parse()", x.parse(), 1);
        Check.same("parse() again", x.parse(), 1);
        Check.same("append", x.append('4'), 6);
        Check.same("parse() with an error", x.parse(), -16);
        Check.same("append", x.append(';'), 7);
        Check.same("parse() of it all", x.parse(), 2);
        Check.same("clearText()", x.clearText(), 7);
    }

    private static void p24IsUndoable() {
        Clock x = Check.hour("10;20r0;9@15;+30;");
        Check.undoable("parse() of the same text at 0", x, c -> c.parse());
        x.pass(12);
        Check.undoable("parse() on the way", x, c -> c.parse());
        x.finish();
        Check.undoable("parse() when it is over", x, c -> c.parse());
        x.clearText();
        Check.undoable("parse() of no text", x, c -> c.parse());
        x.append('x');
        Check.savesNothing("parse() with an error", x, c -> c.parse());
    }
}
