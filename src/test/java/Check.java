import java.util.function.IntUnaryOperator;

/** What the tests share: an object looked at from outside, and a count of what was not as due. */
final class Check {
    private static final int LEAST_INT = Integer.MIN_VALUE;
    private static final int GREATEST_INT = Integer.MAX_VALUE;
    private static int wrong = 0;

    private Check() {
    }

    interface Call {
        void on(Clock c);
    }

    /** A call with one argument that a test varies. */
    interface CallWith {
        int on(Clock c, int argument);
    }

    static void same(String what, long got, long due) {
        if (got != due) {
            tell(what + " answered " + got + ", due is " + due);
        }
    }

    static void sameDouble(String what, double got, double due) {
        if (Double.compare(got, due) != 0) {
            tell(what + " answered " + got + ", due is " + due);
        }
    }

    static void sameText(String what, String got, String due) {
        if (!got.equals(due)) {
            tell(what + " answered\n  " + got + ", due is\n  " + due);
        }
    }

    static void tell(String what) {
        wrong++;
        if (wrong <= 40) {
            System.out.println(what);
        }
    }

    /** The call throws exactly this exception and changes nothing; x is left alone, a twin is asked. */
    static void fails(String what, Clock x, Class<? extends Exception> due, Call call) {
        Clock tried = x.twin();
        Class<?> got = null;
        try {
            call.on(tried);
        } catch (Exception e) {
            got = e.getClass();
        }
        if (got != due) {
            tell(what + " threw " + got + ", due is " + due);
        }
        sameText(what + ", all that can be seen after the exception", all(tried), all(x.twin()));
    }

    static void failsArgument(String what, Clock x, Call call) {
        fails(what, x, IllegalArgumentException.class, call);
    }

    static void failsState(String what, Clock x, Call call) {
        fails(what, x, IllegalStateException.class, call);
    }

    static void failsIndex(String what, Clock x, Call call) {
        fails(what, x, IndexOutOfBoundsException.class, call);
    }

    /** The argument may be least and greatest, but not one less or more, nor at the ends of int. */
    static void argumentFrom(String what, Clock x, int least, int greatest, CallWith call) {
        int[] right = {least, greatest};
        for (int argument : right) {
            try {
                call.on(x.twin(), argument);
            } catch (RuntimeException e) {
                tell(what + ", with " + argument + ", threw " + e.getClass());
            }
        }
        int[] outside = {least - 1, greatest + 1, LEAST_INT, GREATEST_INT};
        for (int argument : outside) {
            failsArgument(what + ", with " + argument, x, c -> call.on(c, argument));
        }
    }

    /** There are things with the numbers below count, and no others. */
    static void numbersBelow(String what, Clock x, int count, CallWith call) {
        for (int n = 0; n < count; n++) {
            try {
                call.on(x.twin(), n);
            } catch (RuntimeException e) {
                tell(what + ", with " + n + ", threw " + e.getClass());
            }
        }
        int[] outside = {-1, count, count + 1, 1000, LEAST_INT, GREATEST_INT};
        for (int n : outside) {
            failsIndex(what + ", with " + n, x, c -> call.on(c, n));
        }
    }

    /** The call saves one state, and undo brings it back; x is left alone. */
    static void undoable(String what, Clock x, Call call) {
        Clock tried = x.twin();
        int before = saved(x);
        call.on(tried);
        same(what + ", the saved states", saved(tried), Math.min(4, before + 1));
        same(what + ", undo()", tried.undo(), Math.min(3, before));
        sameText(what + ", the view after undo()", view(tried), view(x.twin()));
    }

    /** The call, though successful, saves no state. */
    static void savesNothing(String what, Clock x, Call call) {
        Clock tried = x.twin();
        call.on(tried);
        same(what + ", the saved states", saved(tried), saved(x));
        sameText(what + ", the view", view(tried), view(x.twin()));
    }

    /** The call only asks: nothing is another then. */
    static void asks(String what, Clock x, Call call) {
        Clock tried = x.twin();
        call.on(tried);
        sameText(what + ", all that can be seen after asking", all(tried), all(x.twin()));
    }

    /** The number of saved states; found by undoing them on a twin. */
    static int saved(Clock x) {
        Clock tried = x.twin();
        for (int saved = 0; saved <= 5; saved++) {
            try {
                tried.undo();
            } catch (IllegalStateException e) {
                return saved;
            }
        }
        tell("there are more than 5 saved states");
        return -1;
    }

    static int textLength(Clock x) {
        return x.twin().clearText();
    }

    /** All that can be asked, but the text and the saved states. */
    static String view(Clock x) {
        StringBuilder all = new StringBuilder();
        for (int what = 0; what <= 13; what++) {
            all.append(x.value(what)).append(' ');
        }
        int elements = x.value(0);
        for (int e = 0; e < elements; e++) {
            all.append("| e").append(e);
            for (int what = 0; what <= 6; what++) {
                all.append(' ').append(x.element(e, what));
            }
            all.append(" b ").append(x.backTime(e)).append(' ').append(x.beginOf(e)).append(' ');
        }
        int fillers = x.value(1);
        for (int f = 0; f < fillers; f++) {
            all.append("| f").append(f);
            for (int what = 0; what <= 2; what++) {
                all.append(' ').append(x.filler(f, what));
            }
        }
        all.append(" | log ").append(log(x)).append(" | ").append(x.endOfHour()).append(' ').append(x.drops());
        all.append(' ').append(x.silence()).append(' ').append(x.bestDrop()).append(' ').append(x.sounding());
        all.append(' ').append(x.choice(3600)).append(' ').append(x.nextFull(0));
        return all.toString();
    }

    /** The view, the saved states and the text; the object is used up then. */
    private static String all(Clock x) {
        StringBuilder all = new StringBuilder(view(x));
        all.append(" | digests ").append(x.digest());
        for (int saved = 0; saved <= 5; saved++) {
            try {
                x.undo();
            } catch (IllegalStateException e) {
                all.append(" | no more");
                break;
            }
            all.append(' ').append(x.digest());
        }
        all.append(" | read ").append(x.parse()).append(' ').append(x.digest());
        return all.toString();
    }

    /** The log in a short form: e an element, f a filler, s silence, d a dropped element. */
    static String log(Clock x) {
        StringBuilder all = new StringBuilder();
        int entries = x.value(11);
        for (int n = 0; n < entries; n++) {
            int kind = x.entry(n, 1);
            int number = x.entry(n, 2);
            all.append(n == 0 ? "" : " ").append(x.entry(n, 0)).append(kind >= 0 && kind <= 3 ? "efsd".charAt(kind) : '?');
            if (kind != 2 || number != HourClock.NONE) {
                all.append(number);
            }
        }
        return all.toString();
    }

    /** The digest as the document makes it, from the single answers. */
    static long digestOf(Clock x) {
        Clock y = x.twin();
        long h = 3559;
        h = 31 * h + textLength(x);
        for (int what = 0; what <= 13; what++) {
            h = 31 * h + y.value(what);
        }
        int elements = y.value(0);
        for (int e = 0; e < elements; e++) {
            for (int what = 0; what <= 6; what++) {
                h = 31 * h + y.element(e, what);
            }
            h = 31 * h + y.backTime(e);
            h = 31 * h + y.beginOf(e);
        }
        int fillers = y.value(1);
        for (int f = 0; f < fillers; f++) {
            for (int what = 0; what <= 2; what++) {
                h = 31 * h + y.filler(f, what);
            }
        }
        int entries = y.value(11);
        for (int n = 0; n < entries; n++) {
            for (int what = 0; what <= 2; what++) {
                h = 31 * h + y.entry(n, what);
            }
        }
        h = 31 * h + y.endOfHour();
        return 31 * h + saved(x);
    }

    /** The answers for the arguments 0, 1, .. are these. */
    static void sameRow(String what, IntUnaryOperator call, int... due) {
        for (int n = 0; n < due.length; n++) {
            same(what + " for " + n, call.applyAsInt(n), due[n]);
        }
    }

    static void type(Clock x, String text) {
        x.clearText();
        append(x, text);
    }

    static void append(Clock x, String text) {
        for (int i = 0; i < text.length(); i++) {
            x.append(text.charAt(i));
        }
    }

    static int parse(Clock x, String text) {
        type(x, text);
        return x.parse();
    }

    /** An hour that is read from a text; one state is saved. */
    static Clock hour(String text) {
        Clock x = new Clock();
        int got = parse(x, text);
        if (got < 0) {
            tell("the text " + text + " was refused with " + got);
        }
        return x;
    }

    static void end(String name) {
        System.out.println(name + (wrong == 0 ? ": all as due" : ": " + wrong + " not as due"));
        if (wrong != 0) {
            System.exit(1);
        }
    }
}
