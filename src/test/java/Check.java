/** What the tests share: an object looked at from outside, and a count of what was not as due. */
final class Check {
    private static int wrong = 0;

    private Check() {
    }

    interface Call {
        void run();
    }

    static void same(String what, long got, long due) {
        if (got != due) {
            tell(what + " answered " + got + ", due is " + due);
        }
    }

    static void sameDouble(String what, double got, double due) {
        if (Double.compare(got, due) != 0) {
            tell(what + " answered " + got + ", due is " + due);
        }
    }

    static void sameText(String what, String got, String due) {
        if (!got.equals(due)) {
            tell(what + " answered\n  " + got + ", due is\n  " + due);
        }
    }

    static void tell(String what) {
        wrong++;
        if (wrong <= 40) {
            System.out.println(what);
        }
    }

    /** The call throws exactly this exception and changes nothing. */
    static void fails(String what, HourClock x, Class<? extends Exception> due, Call call) {
        String before = view(x);
        long digest = x.digest();
        Class<?> got = null;
        try {
            call.run();
        } catch (Exception e) {
            got = e.getClass();
        }
        if (got != due) {
            tell(what + " threw " + got + ", due is " + due);
        }
        sameText(what + ", the view after the exception", view(x), before);
        same(what + ", the digest after the exception", x.digest(), digest);
    }

    static void failsArgument(String what, HourClock x, Call call) {
        fails(what, x, IllegalArgumentException.class, call);
    }

    static void failsState(String what, HourClock x, Call call) {
        fails(what, x, IllegalStateException.class, call);
    }

    static void failsIndex(String what, HourClock x, Call call) {
        fails(what, x, IndexOutOfBoundsException.class, call);
    }

    /** The call saves one state, and undo brings it back; the object then is as it was. */
    static void undoable(String what, HourClock x, Call call) {
        String before = view(x);
        long due = Math.min(4, saved(x) + 1);
        call.run();
        same(what + ", the saved states", saved(x), due);
        same(what + ", undo()", x.undo(), due - 1);
        sameText(what + ", the view after undo()", view(x), before);
    }

    /** The call only asks: neither the view nor the saved states are others then. */
    static void asks(String what, HourClock x, Call call) {
        String before = view(x);
        long digest = x.digest();
        call.run();
        sameText(what + ", the view after asking", view(x), before);
        same(what + ", the digest after asking", x.digest(), digest);
    }

    /** All that can be asked, but the saved states. */
    static String view(HourClock x) {
        StringBuilder all = new StringBuilder();
        for (int what = 0; what <= 13; what++) {
            all.append(x.value(what)).append(' ');
        }
        for (int e = 0; e < x.value(0); e++) {
            all.append("| e").append(e);
            for (int what = 0; what <= 6; what++) {
                all.append(' ').append(x.element(e, what));
            }
            all.append(" b ").append(x.backTime(e)).append(' ').append(x.beginOf(e)).append(' ');
        }
        for (int f = 0; f < x.value(1); f++) {
            all.append("| f").append(f);
            for (int what = 0; what <= 2; what++) {
                all.append(' ').append(x.filler(f, what));
            }
        }
        all.append(" | log ").append(log(x)).append(" | ").append(x.endOfHour()).append(' ').append(x.drops());
        all.append(' ').append(x.silence()).append(' ').append(x.bestDrop()).append(' ').append(x.sounding());
        all.append(' ').append(x.choice(3600)).append(' ').append(x.nextFull(0));
        return all.toString();
    }

    /** The log in a short form: e an element, f a filler, s silence, d a dropped element. */
    static String log(HourClock x) {
        StringBuilder all = new StringBuilder();
        for (int n = 0; n < x.value(11); n++) {
            int kind = x.entry(n, 1);
            int number = x.entry(n, 2);
            all.append(n == 0 ? "" : " ").append(x.entry(n, 0)).append(kind >= 0 && kind <= 3 ? "efsd".charAt(kind) : '?');
            if (kind != 2 || number != HourClock.NONE) {
                all.append(number);
            }
        }
        return all.toString();
    }

    /** The digest as the document makes it, but without its last step. */
    static long digestWithoutSaved(HourClock x, int textLength) {
        long h = 3559;
        h = 31 * h + textLength;
        for (int what = 0; what <= 13; what++) {
            h = 31 * h + x.value(what);
        }
        for (int e = 0; e < x.value(0); e++) {
            for (int what = 0; what <= 6; what++) {
                h = 31 * h + x.element(e, what);
            }
            h = 31 * h + x.backTime(e);
            h = 31 * h + x.beginOf(e);
        }
        for (int f = 0; f < x.value(1); f++) {
            for (int what = 0; what <= 2; what++) {
                h = 31 * h + x.filler(f, what);
            }
        }
        for (int n = 0; n < x.value(11); n++) {
            for (int what = 0; what <= 2; what++) {
                h = 31 * h + x.entry(n, what);
            }
        }
        return 31 * h + x.endOfHour();
    }

    /** The number of saved states, which only the digest tells; the text is found by trying. */
    static long saved(HourClock x) {
        for (int textLength = 0; textLength <= 100; textLength++) {
            long saved = x.digest() - 31 * digestWithoutSaved(x, textLength);
            if (saved >= 0 && saved <= 4) {
                return saved;
            }
        }
        tell("the digest fits no number of saved states");
        return -1;
    }

    static void type(HourClock x, String text) {
        x.clearText();
        for (int i = 0; i < text.length(); i++) {
            x.append(text.charAt(i));
        }
    }

    static int parse(HourClock x, String text) {
        type(x, text);
        return x.parse();
    }

    /** An hour that is read from a text; one state is saved. */
    static HourClock hour(String text) {
        HourClock x = new HourClock();
        int got = parse(x, text);
        if (got < 0) {
            tell("the text " + text + " was refused with " + got);
        }
        return x;
    }

    static void end(String name) {
        System.out.println(name + (wrong == 0 ? ": all as due" : ": " + wrong + " not as due"));
        if (wrong != 0) {
            System.exit(1);
        }
    }
}
