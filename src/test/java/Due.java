import java.util.NoSuchElementException;

/** What the project's tests share: feeding texts, comparing answers, the exit code. */
final class Due {
    static final int NOTHING = 0;
    static final Class<?> NO_SOUND = NoSuchElementException.class;
    static final Class<?> NO_MAP = IndexOutOfBoundsException.class;
    static final Class<?> WRONG = IllegalArgumentException.class;
    static final Class<?> UNFIT = IllegalStateException.class;

    private static int wrong = 0;
    private static int asked = 0;

    private Due() {
    }

    interface Call {
        long answer();
    }

    static void same(String what, long got, long want) {
        asked++;
        if (got != want) {
            wrong++;
            System.out.println(what + ": answered " + got + ", due is " + want);
        }
    }

    static void thrown(String what, Class<?> due, Call call) {
        asked++;
        String got;
        try {
            got = "answered " + call.answer();
        } catch (RuntimeException e) {
            if (e.getClass() == due) {
                return;
            }
            got = "threw " + e;
        }
        wrong++;
        System.out.println(what + ": " + got + ", due is " + due.getName());
    }

    /** The texts' bytes come on the tape; their number. */
    static int feed(DrawnSounds x, int... bytes) {
        for (int k = 0; k < bytes.length; k += 20) {
            int[] numbers = new int[5];
            for (int i = 0; i < 20; i++) {
                int one = k + i < bytes.length ? bytes[k + i] : 0;
                numbers[i / 4] = numbers[i / 4] << 8 | one;
            }
            x.feed(numbers[0], numbers[1], numbers[2], numbers[3], numbers[4]);
        }
        return bytes.length;
    }

    static int feed(DrawnSounds x, String text) {
        int[] bytes = new int[text.length()];
        for (int k = 0; k < bytes.length; k++) {
            bytes[k] = text.charAt(k);
        }
        return feed(x, bytes);
    }

    static int sound(DrawnSounds x, String text) {
        return x.sound(feed(x, text));
    }

    static int map(DrawnSounds x, String text) {
        return x.map(feed(x, text));
    }

    /** All samples of a sound are just these. */
    static void samples(String what, DrawnSounds x, int sound, int... due) {
        same(what + ": size", x.size(sound), due.length);
        for (int k = 0; k < due.length; k++) {
            same(what + ": sample " + k, x.sample(sound, k), due[k]);
        }
    }

    /** All samples of the result are just these. */
    static void result(String what, DrawnSounds x, int... due) {
        same(what + ": length", x.length(), due.length);
        for (int k = 0; k < due.length; k++) {
            same(what + ": result " + k, x.result(k), due[k]);
        }
    }

    static void end() {
        System.out.println(wrong == 0 ? asked + " answers are as due" : wrong + " of " + asked + " are not as due");
        if (wrong != 0) {
            System.exit(1);
        }
    }
}
