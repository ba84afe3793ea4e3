import java.util.NoSuchElementException;

/** What the project's tests share: feeding texts, comparing answers, the exit code. */
final class Due {
    static final int NOTHING = 0;
    static final Class<?> NO_SOUND = NoSuchElementException.class;
    static final Class<?> NO_MAP = IndexOutOfBoundsException.class;
    static final Class<?> WRONG = IllegalArgumentException.class;
    static final Class<?> UNFIT = IllegalStateException.class;

    private static int wrong = 0;
    private static int asked = 0;

    private Due() {
    }

    interface Call {
        long answer();
    }

    static void same(String what, long got, long want) {
        asked++;
        if (got != want) {
            wrong++;
            System.out.println(what + ": answered " + got + ", due is " + want);
        }
    }

    static void thrown(String what, Class<?> due, Call call) {
        asked++;
        String got;
        try {
            got = "answered " + call.answer();
        } catch (RuntimeException e) {
            if (e.getClass() == due) {
                return;
            }
            got = "threw " + e;
        }
        wrong++;
        System.out.println(what + ": " + got + ", due is " + due.getName());
    }

    /** The call throws just this, and what can be asked without a change is as it was. */
    static void refused(String what, DrawnSounds x, Class<?> due, Call call) {
        String ahead = state(x);
        thrown(what, due, call);
        stays(what, x, ahead);
    }

    /** The call answers just this, and what can be asked without a change is as it was. */
    static void unchanged(String what, DrawnSounds x, long due, Call call) {
        String ahead = state(x);
        same(what, call.answer(), due);
        stays(what, x, ahead);
    }

    private static void stays(String what, DrawnSounds x, String ahead) {
        asked++;
        String now = state(x);
        if (!now.equals(ahead)) {
            wrong++;
            System.out.println(what + ": changed " + ahead + "to " + now);
        }
    }

    /** Counts, the fault, and the RESULT with its SEAMS and HARM. */
    private static String state(DrawnSounds x) {
        StringBuilder all = new StringBuilder();
        for (int what = 0; what <= 7; what++) {
            all.append(x.count(what)).append(' ');
        }
        int length = x.length();
        int seams = x.count(2);
        all.append("fault ").append(x.fault()).append(" length ").append(length).append(" ends ");
        all.append(x.result(0)).append(' ').append(x.result(length - 1)).append(" seam ");
        all.append(x.seam(seams - 1, 1)).append(' ').append(x.seam(seams - 1, 2)).append(" harm ");
        return all.append(x.harm(0)).append(' ').toString();
    }

    /** A text for these samples, of 0 or more each, 16 at most. */
    static String row(int... samples) {
        StringBuilder text = new StringBuilder();
        for (int one : samples) {
            text.append(one == 0 ? "still" : "blow " + one).append(" 1;");
        }
        return text.toString();
    }

    /** The texts' bytes come on the tape; their number. */
    static int feed(DrawnSounds x, int... bytes) {
        for (int k = 0; k < bytes.length; k += 20) {
            int[] numbers = new int[5];
            for (int i = 0; i < 20; i++) {
                int one = k + i < bytes.length ? bytes[k + i] : 0;
                numbers[i / 4] = numbers[i / 4] << 8 | one;
            }
            x.feed(numbers[0], numbers[1], numbers[2], numbers[3], numbers[4]);
        }
        return bytes.length;
    }

    static int feed(DrawnSounds x, String text) {
        int[] bytes = new int[text.length()];
        for (int k = 0; k < bytes.length; k++) {
            bytes[k] = text.charAt(k);
        }
        return feed(x, bytes);
    }

    static int sound(DrawnSounds x, String text) {
        return x.sound(feed(x, text));
    }

    static int map(DrawnSounds x, String text) {
        return x.map(feed(x, text));
    }

    /** All samples of a sound are just these. */
    static void samples(String what, DrawnSounds x, int sound, int... due) {
        same(what + ": size", x.size(sound), due.length);
        for (int k = 0; k < due.length; k++) {
            same(what + ": sample " + k, x.sample(sound, k), due[k]);
        }
    }

    /** All samples of the result are just these. */
    static void result(String what, DrawnSounds x, int... due) {
        same(what + ": length", x.length(), due.length);
        for (int k = 0; k < due.length; k++) {
            same(what + ": result " + k, x.result(k), due[k]);
        }
    }

    static void end() {
        System.out.println(wrong == 0 ? asked + " answers are as due" : wrong + " of " + asked + " are not as due");
        if (wrong != 0) {
            System.exit(1);
        }
    }
}
