import java.util.Random;

/**
 * Random runs of calls, the same ones each time, on HourClock and on the slow model: each answer,
 * each exception and each digest must be the same. An argument sets the number of runs.
 */
public final class RandomTests {
    /** A text has at most 100 bytes; a step that types one ends with a digest. */
    private static final int CALLS_OF_A_STEP = 101;

    private final Random random;
    private final Clock clock = new Clock();
    private final Model model = new Model();
    /** How big lengths are, in which range times lie, and how often fillers come: each run has its own kind. */
    private final int longest;
    private final int latest;
    private final StringBuilder told = new StringBuilder();

    private RandomTests(long seed) {
        random = new Random(seed);
        longest = new int[] {5, 60, 400, 900, 1800}[random.nextInt(5)];
        latest = new int[] {30, 600, 3600}[random.nextInt(3)];
    }

    public static void main(String[] args) {
        int runs = args.length > 0 ? Integer.parseInt(args[0]) : 400;
        for (int seed = 1; seed <= runs; seed++) {
            if (!new RandomTests(seed).run(seed)) {
                break;
            }
        }
        Check.end("RandomTests");
    }

    private boolean run(int seed) {
        // Every other run asks for the digest seldom, so that more of its 512 calls are others.
        int stepsToDigest = seed % 2 == 0 ? 1 : 12;
        for (int step = 1; clock.callsLeft() >= CALLS_OF_A_STEP; step++) {
            int which = random.nextInt(100);
            int[] a = arguments(which);
            String got = answer(() -> onClock(which, a));
            String due = answer(() -> onModel(which, a));
            told.append(name(which)).append(java.util.Arrays.toString(a)).append(" = ").append(due).append('\n');
            boolean withDigest = step % stepsToDigest == 0;
            long gotDigest = withDigest ? clock.digest() : 0;
            long dueDigest = withDigest ? model.digest() : 0;
            if (!got.equals(due) || gotDigest != dueDigest) {
                Check.tell(told + "run " + seed + ", step " + step + ": answered " + got + ", due is " + due
                    + ", digest " + gotDigest + ", due is " + dueDigest);
                return false;
            }
        }
        return true;
    }

    private interface Asked {
        String ask();
    }

    private static String answer(Asked asked) {
        try {
            return asked.ask();
        } catch (RuntimeException e) {
            return e.getClass().getName();
        }
    }

    private int around(int least, int greatest) {
        int kind = random.nextInt(20);
        if (kind == 0) {
            return least - 1;
        }
        if (kind == 1) {
            return greatest + 1;
        }
        if (kind == 2) {
            return greatest;
        }
        return least + (kind == 3 ? 0 : random.nextInt(greatest - least + 1));
    }

    private static String name(int which) {
        String[] names = {"addElement", "addFiller", "stretch", "drop", "pass", "finish", "again", "element", "filler", "value",
            "entry", "backTime", "beginOf", "endOfHour", "drops", "silence", "choice", "nextFull", "bestDrop", "sounding",
            "text", "clearText", "parse", "undo"};
        return names[number(which)];
    }

    /** Which call it is; those that bring much about come more often. */
    private static int number(int which) {
        int[] often = {18, 12, 9, 4, 14, 1, 3, 3, 2, 2, 2, 2, 2, 1, 2, 2, 3, 3, 3, 2, 4, 1, 3, 2};
        int sum = 0;
        for (int n = 0; n < often.length; n++) {
            sum += often[n];
            if (which < sum) {
                return n;
            }
        }
        return 13;
    }

    private int[] arguments(int which) {
        int e = random.nextInt(8) == 0 ? around(0, 11) : random.nextInt(1 + model.value(0));
        switch (number(which)) {
            case 0:
                int time = random.nextInt(3) == 0 ? (model.value(2) + random.nextInt(latest)) % 3600 : -1;
                boolean wrong = random.nextInt(12) == 0;
                return wrong ? new int[] {around(1, 1800), around(-1, 3599), around(0, 9)}
                    : new int[] {1 + random.nextInt(longest), time, random.nextInt(10)};
            case 1:
                return new int[] {random.nextInt(12) == 0 ? around(1, 900) : 1 + random.nextInt(Math.min(900, longest))};
            case 2:
                return new int[] {e, random.nextInt(3) == 0 ? around(-1800, 1800) : random.nextInt(2 * longest) - longest};
            case 4:
                return new int[] {random.nextInt(6) == 0 ? around(1, 3600) : 1 + random.nextInt(longest)};
            case 7:
                return new int[] {e, around(0, 6)};
            case 8:
                return new int[] {around(0, Math.max(0, model.value(1) - 1)), around(0, 2)};
            case 9:
                return new int[] {around(0, 13)};
            case 10:
                return new int[] {around(0, Math.max(0, model.value(11) - 1)), around(0, 2)};
            case 16:
                return new int[] {random.nextBoolean() ? around(1, 3600) : 1 + random.nextInt(2 * longest)};
            case 17:
                return new int[] {random.nextBoolean() ? around(0, 3600) : random.nextInt(2 * longest)};
            case 20:
                return text();
            default:
                return new int[] {e};
        }
    }

    /** A text, most often a right one, sometimes with a byte that is another or is missing. */
    private int[] text() {
        StringBuilder text = new StringBuilder();
        int items = random.nextInt(9);
        for (int i = 0; i < items; i++) {
            if (random.nextInt(3) == 0) {
                text.append('+').append(random.nextInt(20) == 0 ? around(1, 900) : 1 + random.nextInt(Math.min(900, longest)));
            } else {
                text.append(random.nextInt(20) == 0 ? around(1, 1800) : 1 + random.nextInt(longest));
                text.append(random.nextInt(3) == 0 ? "@" + (random.nextInt(9) == 0 ? around(0, 3599) : random.nextInt(latest)) : "");
                text.append(random.nextInt(2) == 0 ? "r" + random.nextInt(10) : "");
            }
            text.append(';');
        }
        if (random.nextInt(3) == 0 && text.length() > 0) {
            int at = random.nextInt(text.length());
            String others = ";@r+0123456789 x";
            char other = others.charAt(random.nextInt(others.length()));
            switch (random.nextInt(4)) {
                case 0:
                    text.setCharAt(at, other);
                    break;
                case 1:
                    text.insert(at, other);
                    break;
                case 2:
                    text.deleteCharAt(at);
                    break;
                default:
                    text.setLength(at);
            }
        }
        int[] bytes = new int[text.length()];
        for (int i = 0; i < bytes.length; i++) {
            bytes[i] = text.charAt(i);
        }
        return bytes;
    }

    private String onClock(int which, int[] a) {
        switch (number(which)) {
            case 0: return "" + clock.addElement(a[0], a[1], a[2]);
            case 1: return "" + clock.addFiller(a[0]);
            case 2: return "" + clock.stretch(a[0], a[1]);
            case 3: return "" + clock.drop(a[0]);
            case 4: return "" + clock.pass(a[0]);
            case 5: return "" + clock.finish();
            case 6: return "" + clock.again();
            case 7: return "" + clock.element(a[0], a[1]);
            case 8: return "" + clock.filler(a[0], a[1]);
            case 9: return "" + clock.value(a[0]);
            case 10: return "" + clock.entry(a[0], a[1]);
            case 11: return "" + clock.backTime(a[0]);
            case 12: return "" + clock.beginOf(a[0]);
            case 13: return "" + clock.endOfHour();
            case 14: return "" + clock.drops();
            case 15: return "" + clock.silence();
            case 16: return "" + clock.choice(a[0]);
            case 17: return "" + clock.nextFull(a[0]);
            case 18: return "" + clock.bestDrop();
            case 19: return "" + clock.sounding();
            case 20:
                StringBuilder all = new StringBuilder();
                for (int b : a) {
                    all.append(clock.append(b)).append(' ');
                }
                return all.toString();
            case 21: return "" + clock.clearText();
            case 22:
                int read = clock.parse();
                clock.clearText();
                return "" + read;
            default: return "" + clock.undo();
        }
    }

    private String onModel(int which, int[] a) {
        switch (number(which)) {
            case 0: return "" + model.addElement(a[0], a[1], a[2]);
            case 1: return "" + model.addFiller(a[0]);
            case 2: return "" + model.stretch(a[0], a[1]);
            case 3: return "" + model.drop(a[0]);
            case 4: return "" + model.pass(a[0]);
            case 5: return "" + model.finish();
            case 6: return "" + model.again();
            case 7: return "" + model.element(a[0], a[1]);
            case 8: return "" + model.filler(a[0], a[1]);
            case 9: return "" + model.value(a[0]);
            case 10: return "" + model.entry(a[0], a[1]);
            case 11: return "" + model.backTime(a[0]);
            case 12: return "" + model.beginOf(a[0]);
            case 13: return "" + model.endOfHour();
            case 14: return "" + model.drops();
            case 15: return "" + model.silence();
            case 16: return "" + model.choice(a[0]);
            case 17: return "" + model.nextFull(a[0]);
            case 18: return "" + model.bestDrop();
            case 19: return "" + model.sounding();
            case 20:
                StringBuilder all = new StringBuilder();
                for (int b : a) {
                    all.append(model.append(b)).append(' ');
                }
                return all.toString();
            case 21: return "" + model.clearText();
            case 22:
                int read = model.parse();
                model.clearText();
                return "" + read;
            default: return "" + model.undo();
        }
    }
}
