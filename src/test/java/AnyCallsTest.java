import java.lang.reflect.InvocationTargetException;
import java.lang.reflect.Method;
import java.util.ArrayList;
import java.util.Arrays;
import java.util.Comparator;
import java.util.List;

/**
 * Any calls with any numbers in any state: no call throws but what its face names, and a
 * call that throws changes nothing that is counted. The calls are the same in every run.
 */
public final class AnyCallsTest {
    private static final String[] TEXTS = {
        "still 30;blow 900 12;tone 9 300 90;blow 1200 40;hum 13 50;", "tone 8 80 40;", "hiss 2000 300 77;hiss 9 300 1;",
        "still 300;still 300;", "blow 700 1;", "tone 4 900 300;still 9;hiss 40 60 3;", "tone 60 2000 300;tone 7 20 300;",
        "still 4;blow 500 9;still 60;blow 600 9;still 66;blow 800 30;", "still 0;", "tone 5 6", ""};
    private static final String[] MAPS = {
        "mark 40 80;", "mark 600 1200;", "mark 1 1;", "mark 100 30;mark 200 900;mark 300 1000;", "mark 599 3;mark 600 1200;",
        "mark 1 1199;mark 600 1200;", "mark 30 30;mark 40 70;mark 90 80;mark 150 200;", "mark 5 5;mark 5 6;", "mark"};

    private long state = 1;

    public static void main(String[] args) throws IllegalAccessException {
        AnyCallsTest test = new AnyCallsTest();
        for (int turn = 0; turn < 150; turn++) {
            test.run(turn);
        }
        Due.end();
    }

    private int draw(int least, int most) {
        state = state * 6364136223846793005L + 1442695040888963407L;
        return least + (int) Math.floorMod(state >>> 33, (long) most - least + 1);
    }

    private int anyNumber() {
        switch (draw(0, 9)) {
            case 0:
                return draw(-3, 12);
            case 1:
                return draw(0, 700);
            case 2:
                return draw(300, 6100);
            case 3:
                return new int[] {Integer.MAX_VALUE, Integer.MIN_VALUE, -1, 1 << 30}[draw(0, 3)];
            case 4:
                return draw(0, 70);
            default:
                return draw(0, 4);
        }
    }

    private static List<Method> face() {
        List<Method> all = new ArrayList<>();
        for (Method method : DrawnSounds.class.getDeclaredMethods()) {
            if (java.lang.reflect.Modifier.isPublic(method.getModifiers())) {
                all.add(method);
            }
        }
        all.sort(Comparator.comparing(Method::getName));
        return all;
    }

    private void run(int turn) throws IllegalAccessException {
        DrawnSounds x = new DrawnSounds();
        List<Method> face = face();
        for (int call = 0; call < 480; call++) {
            if (call % 16 == 0) {
                String text = draw(0, 1) == 0 ? TEXTS[draw(0, TEXTS.length - 1)] : MAPS[draw(0, MAPS.length - 1)];
                x.sound(x.count(7));
                int n = Due.feed(x, text);
                if (text.startsWith("mark")) {
                    x.map(n);
                } else {
                    x.sound(n);
                }
            }
            Method method = face.get(draw(0, face.size() - 1));
            Object[] numbers = new Object[method.getParameterCount()];
            for (int k = 0; k < numbers.length; k++) {
                numbers[k] = anyNumber();
            }
            int[] before = counts(x);
            try {
                method.invoke(x, numbers);
            } catch (InvocationTargetException e) {
                String what = "turn " + turn + ": " + method.getName() + Arrays.toString(numbers) + " threw " + e.getCause();
                boolean named = Arrays.asList(method.getExceptionTypes()).contains(e.getCause().getClass());
                Due.same(what, named ? 1 : 0, 1);
                Due.same(what + ", nothing is changed", Arrays.equals(before, counts(x)) ? 1 : 0, 1);
            }
        }
    }

    private static int[] counts(DrawnSounds x) {
        int[] all = new int[10];
        for (int what = 0; what < 8; what++) {
            all[what] = x.count(what);
        }
        all[8] = x.length();
        all[9] = x.fault();
        return all;
    }
}
