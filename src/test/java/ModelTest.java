import java.lang.reflect.InvocationTargetException;
import java.lang.reflect.Method;
import java.lang.reflect.Modifier;
import java.util.ArrayList;
import java.util.Arrays;
import java.util.Comparator;
import java.util.HashMap;
import java.util.List;
import java.util.Map;
import java.util.NoSuchElementException;
import java.util.regex.Matcher;
import java.util.regex.Pattern;

/**
 * The same random calls go to the class and to a second, slow object of the whole face that
 * copies all it has for each IMAGE; each answer, each exception and what is counted must be
 * alike, whatever state came about ahead. The calls are the same in every run.
 */
public final class ModelTest {
    private static final Map<String, Method> OWN = methods(DrawnSounds.class);
    private static final Map<String, Method> MODEL = methods(Model.class);

    private long state;
    private DrawnSounds x;
    private Model y;
    private final List<String> told = new ArrayList<>();
    private boolean failed;

    public static void main(String[] args) throws IllegalAccessException {
        Due.same("the model has each call", MODEL.keySet().equals(OWN.keySet()) ? 1 : 0, 1);
        int runs = args.length > 0 ? Integer.parseInt(args[0]) : 150;
        int first = args.length > 1 ? Integer.parseInt(args[1]) : 1;
        for (int seed = first; seed < first + runs; seed++) {
            new ModelTest().run(seed);
        }
        Due.end();
    }

    private static Map<String, Method> methods(Class<?> of) {
        Map<String, Method> all = new HashMap<>();
        for (Method method : of.getDeclaredMethods()) {
            if (Modifier.isPublic(method.getModifiers())) {
                method.setAccessible(true);
                all.put(method.getName(), method);
            }
        }
        return all;
    }

    private int draw(int least, int most) {
        state = state * 6364136223846793005L + 1442695040888963407L;
        return least + (int) Math.floorMod(state >>> 33, (long) most - least + 1);
    }

    private static Object answer(Object of, Method method, Object[] numbers) throws IllegalAccessException {
        try {
            return ((Number) method.invoke(of, numbers)).longValue();
        } catch (InvocationTargetException e) {
            return e.getCause().getClass().getName();
        }
    }

    private Object call(String name, int... arguments) throws IllegalAccessException {
        Object[] numbers = new Object[arguments.length];
        for (int k = 0; k < numbers.length; k++) {
            numbers[k] = arguments[k];
        }
        Object got = answer(x, OWN.get(name), numbers);
        Object want = answer(y, MODEL.get(name), numbers);
        told.add(name + Arrays.toString(arguments) + " -> " + want);
        boolean alike = got.equals(want);
        Due.same("seed: " + name + Arrays.toString(arguments) + " answered " + got + ", the model " + want,
            alike ? 1 : 0, 1);
        if (!alike && !failed) {
            failed = true;
            for (String line : told) {
                System.out.println("    " + line);
            }
        }
        return want;
    }

    private void run(int seed) throws IllegalAccessException {
        state = seed;
        x = new DrawnSounds();
        y = new Model();
        List<String> names = new ArrayList<>(OWN.keySet());
        names.sort(Comparator.naturalOrder());
        for (int turn = 0; turn < 250 && !failed; turn++) {
            boolean full = y.sounds.size() == 5 || y.maps.size() == 5;
            if (turn == 5 || full && draw(0, 4) == 0) {
                call("restore");
                call("image");
            } else if (draw(0, 9) < (turn < 5 ? 9 : 1)) {
                text();
            } else {
                String name = names.get(draw(0, names.size() - 1));
                call(name, numbersFor(name));
            }
            for (int what = 0; what < 8 && !failed; what++) {
                call("count", what);
            }
            call("fault");
            call("length");
            for (int what = 0; what < 3 && !y.maps.isEmpty(); what++) {
                call("told", y.maps.size() - 1, what);
            }
            if (turn % 10 == 9) {
                look();
            }
        }
    }

    private void look() throws IllegalAccessException {
        for (int what = 0; what < 5; what++) {
            call("harm", what);
        }
        for (int sound = 0; sound < y.sounds.size(); sound++) {
            for (int k = draw(-1, 9); k <= y.sounds.get(sound).length; k += draw(1, 40)) {
                call("sample", sound, k);
            }
        }
        for (int k = draw(-1, 9); k <= y.out.length; k += draw(1, 40)) {
            call("result", k);
        }
        for (int k = draw(-1, 9); k <= y.seams.size(); k += draw(1, 20)) {
            call("seam", k, draw(0, 2));
        }
        for (int map = 0; map < y.maps.size(); map++) {
            for (int t = draw(-1, 30); t < 1210; t += draw(1, 200)) {
                call("place", map, t);
                call("where", map, t / 2);
            }
            call("told", map, draw(0, 2));
        }
    }

    // ---- numbers that are mostly right ----

    private int[] numbersFor(String name) {
        int many = OWN.get(name).getParameterCount();
        if (draw(0, 19) == 0) {
            int[] any = new int[many];
            for (int k = 0; k < many; k++) {
                any[k] = new int[] {draw(-2, 3), draw(0, 700), draw(-9999, 9999), Integer.MIN_VALUE, Integer.MAX_VALUE}[draw(0, 4)];
            }
            return any;
        }
        int sound = draw(0, Math.max(0, y.sounds.size() - (draw(0, 15) == 0 ? 0 : 1)));
        int map = draw(0, Math.max(0, y.maps.size() - (draw(0, 15) == 0 ? 0 : 1)));
        int size = sound < y.sounds.size() ? y.sounds.get(sound).length : 9;
        int from = draw(0, size);
        int among = draw(0, 15) == 0 ? size - from + 1 : draw(0, size - from);
        int wide = draw(4, draw(0, 1) == 0 ? 12 : 64);
        int samples = draw(1, draw(0, 3) == 0 ? 600 : 60);
        int least = draw(0, 2) == 0 ? 0 : draw(0, draw(0, 1) == 0 ? samples : 60);
        switch (name) {
            case "feed": return new int[] {draw(-99999999, 99999999), 0x20202020, draw(0, 9), 0x3b3b3b3b, -1};
            case "sound": case "map": return new int[] {draw(0, 3) == 0 ? draw(-1, 301) : y.tape.length() - draw(0, 1)};
            case "size": case "period": case "steady": return new int[] {sound};
            case "sample": return new int[] {sound, draw(-1, 601)};
            case "told": return new int[] {map, draw(-1, 3)};
            case "place": case "where": return new int[] {map, draw(-2, draw(0, 1) == 0 ? 70 : 1201)};
            case "pieces": case "way": return new int[] {wide, draw(1, wide / 2), draw(0, 20)};
            case "draw": case "sharp": case "best": return new int[] {sound, map};
            case "result": return new int[] {draw(-1, 1200)};
            case "seam": return new int[] {draw(-1, 60), draw(0, 2)};
            case "blowing": return new int[] {draw(0, 3) == 0 ? draw(1, 2047) : draw(1, 500), draw(1, 5), draw(1, 40)};
            case "blow": case "crossing": return new int[] {sound, draw(-1, 9)};
            case "harm": return new int[] {draw(-1, 5)};
            case "weigh": return new int[] {draw(0, 3), draw(0, draw(0, 1) == 0 ? 3 : 999)};
            case "bestOf": return new int[] {sound, map, draw(-1, 4)};
            case "part": return new int[] {samples, draw(0, draw(0, 1) == 0 ? 3 : 99), least, least + draw(0, new int[] {0, 20, 600}[draw(0, 2)])};
            case "planned": return new int[] {total(), draw(0, 7) == 0 ? draw(-2, 10) : draw(-1, y.parts.size() - 1)};
            case "planMap": return new int[] {total()};
            case "pitch": return new int[] {sound, from, among};
            case "turned": return new int[] {sound, draw(4, 60), from, among, draw(0, 3)};
            case "sing": return new int[] {sound, map, draw(4, 60), draw(8, 60)};
            case "hum": return new int[] {draw(400, 6000)};
            case "meant": case "wobble": return new int[] {sound, draw(0, 1)};
            case "undo": return new int[] {sound, draw(400, 6000)};
            case "beat": return new int[] {sound, draw(0, 2)};
            case "onto": return new int[] {sound, draw(1, draw(0, 1) == 0 ? 40 : 200)};
            case "loop": return new int[] {sound, draw(1, Math.max(1, draw(0, 7) == 0 ? 600 : size)), draw(0, 2)};
            case "join": return new int[] {sound, draw(0, Math.max(0, y.sounds.size() - 1))};
            case "shift": return new int[] {sound, draw(1, 9), draw(1, 9)};
            case "colour": return new int[] {sound, draw(4, 60)};
            case "peak": return new int[] {sound, from, among, draw(-1, 12)};
            case "lock": return new int[] {sound, draw(4, 60), from, among};
            case "film": return new int[] {sound, draw(1, draw(0, 1) == 0 ? 40 : 1200), draw(1, draw(0, 1) == 0 ? 4 : 99)};
            case "live": return new int[] {draw(0, 12), draw(0, 12), draw(1, 300), draw(0, 40), draw(1, 200)};
            case "lag": return new int[] {draw(0, 12), draw(0, 12), draw(1, 999), draw(1, 200)};
            case "lags": return new int[] {draw(0, 12), from = draw(0, 12), from + draw(0, 3), draw(1, 999), draw(1, 200)};
            case "lost": return new int[] {sound, map, draw(0, Math.max(0, y.maps.size() - 1))};
            case "count": return new int[] {draw(-1, 8)};
            default: return new int[many];
        }
    }

    /** Mostly one that the parts can have. */
    private int total() {
        int least = y.parts.stream().mapToInt(part -> part[2]).sum();
        int most = y.parts.stream().mapToInt(part -> part[3]).sum();
        int high = draw(0, 1) == 0 ? least + 5 : most + 3;
        return draw(0, 7) == 0 ? draw(0, 12000) : Math.min(draw(Math.max(0, least - 3), high), 12000);
    }

    // ---- texts, right ones and others ----

    private void text() throws IllegalAccessException {
        boolean asMap = draw(0, 2) == 0;
        String text = asMap ? marks() : clauses();
        if (draw(0, 2) == 0) {
            text = spoilt(text);
        }
        if (text.length() > 300) {
            text = text.substring(0, 300);
        }
        if (draw(0, 9) > 0) {
            call("sound", y.tape.length());
        }
        for (int k = 0; k < text.length() && !failed; k += 20) {
            int[] numbers = new int[5];
            for (int i = 0; i < 20; i++) {
                numbers[i / 4] = numbers[i / 4] << 8 | (k + i < text.length() ? text.charAt(k + i) : 32);
            }
            call("feed", numbers);
        }
        int n = draw(0, 9) == 0 ? draw(0, text.length()) : text.length();
        call(draw(0, 19) == 0 ? "sound" : asMap ? "map" : "sound", n);
    }

    private String clauses() {
        StringBuilder text = new StringBuilder();
        int many = draw(0, 15) == 0 ? draw(15, 18) : draw(1, 7);
        boolean small = draw(0, 2) == 0;
        boolean beaten = draw(0, 3) == 0;
        for (int c = 0; c < many; c++) {
            int n = many > 9 ? draw(1, 9) : small ? draw(1, 20) : draw(1, draw(0, 3) == 0 ? 300 : 90);
            int p = draw(4, 60);
            int a = draw(1, draw(0, 2) == 0 ? 20 : 2000);
            switch (beaten ? c % 2 * 2 : draw(0, 4)) {
                case 0: text.append("still ").append(n); break;
                case 1: text.append("tone ").append(p).append(' ').append(a).append(' ').append(n); break;
                case 2: text.append("blow ").append(a).append(' ').append(n); break;
                case 3: text.append("hiss ").append(a).append(' ').append(n).append(' ').append(draw(0, 9999)); break;
                default: text.append("hum ").append(p).append(' ').append(a); break;
            }
            text.append(';');
        }
        return text.toString();
    }

    private String marks() {
        StringBuilder text = new StringBuilder();
        int many = draw(0, 9) == 0 ? draw(11, 14) : draw(1, 6);
        int f = 0;
        int t = 0;
        int step = draw(0, 1) == 0 ? 12 : 90;
        for (int m = 0; m < many; m++) {
            f += draw(1, step);
            t += draw(1, draw(0, 3) == 0 ? 200 : step);
            text.append("mark ").append(f).append(' ').append(t).append(';');
        }
        return text.toString();
    }

    private String spoilt(String text) {
        StringBuilder out = new StringBuilder(text);
        for (int turn = draw(1, 3); turn > 0; turn--) {
            int at = draw(0, out.length());
            String signs = "   ;; 0019az{`/:A\t\u00e9\u0000";
            char sign = signs.charAt(draw(0, signs.length() - 1));
            switch (draw(0, 4)) {
                case 0: out.insert(at, sign); break;
                case 1: out.insert(at, ' '); break;
                case 2: out.setLength(at); break;
                case 3: if (at < out.length()) { out.deleteCharAt(at); } break;
                default: if (at < out.length()) { out.setCharAt(at, sign); } break;
            }
        }
        return out.toString();
    }

    // ---- the second object ----

    /** What an IMAGE tells of, copied whole. */
    private static final class Kept {
        List<int[]> sounds;
        List<int[][]> maps;
        int[] pieces;
        int[] blowing;
        int[] counts;
        List<int[]> ways;
        List<int[]> parts;
        List<Integer> hums;
    }

    private static final class Model {
        List<int[]> sounds = new ArrayList<>();
        List<int[][]> maps = new ArrayList<>();
        int[] pieces = {16, 4, 3};
        int[] blowing = {200, 3, 8};
        int[] counts = {1, 100, 500, 1};
        List<int[]> ways = new ArrayList<>();
        List<int[]> parts = new ArrayList<>();
        List<Integer> hums = new ArrayList<>();
        final List<Kept> images = new ArrayList<>();
        String tape = "";
        int fault = -1;
        int[] out = {};
        List<int[]> seams = new ArrayList<>();
        int[] drawnSound;
        int[][] drawnMap;

        // -- what calls need --

        static void need(boolean right) {
            if (!right) {
                throw new IllegalArgumentException();
            }
        }

        static boolean in(int n, int least, int most) {
            return least <= n && n <= most;
        }

        int[] row(int sound) {
            if (!in(sound, 0, sounds.size() - 1)) {
                throw new NoSuchElementException();
            }
            return sounds.get(sound);
        }

        int[][] marksOf(int map) {
            if (!in(map, 0, maps.size() - 1)) {
                throw new IndexOutOfBoundsException();
            }
            return maps.get(map);
        }

        static void needLong(int[] s, int[][] map, int wide) {
            if (s.length < wide || s.length < map[map.length - 1][0]) {
                throw new IllegalStateException();
            }
        }

        int addSound(int[] s) {
            sounds.add(s);
            return sounds.size() - 1;
        }

        int addMap(int[]... marks) {
            maps.add(marks);
            return maps.size() - 1;
        }

        // -- texts --

        public int feed(int a, int b, int c, int d, int e) {
            if (tape.length() + 20 > 300) {
                return -1;
            }
            for (int number : new int[] {a, b, c, d, e}) {
                for (int k = 3; k >= 0; k--) {
                    tape += (char) (number >> 8 * k & 255);
                }
            }
            return tape.length();
        }

        private String text;
        private int at;
        private int kind;

        private boolean bad(int howBad, int where) {
            kind = howBad;
            fault = where;
            return false;
        }

        private String next(String pattern) {
            Matcher matcher = Pattern.compile(" *(" + pattern + ")").matcher(text);
            matcher.region(at, text.length());
            if (!matcher.lookingAt()) {
                return null;
            }
            at = matcher.end();
            return matcher.group(1);
        }

        private int blanksTo() {
            int k = at;
            while (k < text.length() && text.charAt(k) == ' ') {
                k++;
            }
            return k;
        }

        private int number;

        private boolean number(int least, int most) {
            int begin = blanksTo();
            String digits = next("[0-9]+");
            if (digits == null) {
                return bad(1, begin);
            }
            String plain = digits.replaceFirst("^0+", "");
            if (plain.length() > 6) {
                return bad(2, begin);
            }
            number = plain.isEmpty() ? 0 : Integer.parseInt(plain);
            return in(number, least, most) || bad(2, begin);
        }

        private boolean sign() {
            int begin = blanksTo();
            return next(";") != null || bad(1, begin);
        }

        public int sound(int n) {
            need(in(n, 0, tape.length()));
            text = tape.substring(0, n);
            tape = "";
            fault = -1;
            if (sounds.size() == 5) {
                return -1;
            }
            at = 0;
            List<Integer> all = new ArrayList<>();
            for (int c = 0; blanksTo() < text.length(); c++) {
                if (!clause(all, c)) {
                    return kind - 10;
                }
            }
            if (all.isEmpty()) {
                bad(4, text.length());
                return kind - 10;
            }
            return addSound(all.stream().mapToInt(v -> v).toArray());
        }

        private boolean clause(List<Integer> all, int c) {
            int begin = blanksTo();
            String word = next("[a-z]*");
            String asks = word.equals("still") ? "N" : word.equals("tone") ? "PAN" : word.equals("blow") ? "AN"
                : word.equals("hiss") ? "ANS" : word.equals("hum") ? "PA" : "";
            if (asks.isEmpty()) {
                return bad(1, begin);
            }
            if (c == 16) {
                return bad(3, begin);
            }
            Map<Character, Integer> got = new HashMap<>();
            for (char ask : asks.toCharArray()) {
                int where = blanksTo();
                int least = ask == 'P' ? 4 : ask == 'S' ? 0 : 1;
                int most = ask == 'P' ? 60 : ask == 'A' ? 2000 : ask == 'N' ? 300 : 9999;
                if (!number(least, most)) {
                    return false;
                }
                if (ask == 'N' && all.size() + number > 600) {
                    return bad(3, where);
                }
                got.put(ask, number);
            }
            if (!sign()) {
                return false;
            }
            if (word.equals("hum")) {
                for (int k = 0; k < all.size(); k++) {
                    all.set(k, Math.max(-2047, Math.min(2047, all.get(k) + wave(got.get('P'), got.get('A'), k))));
                }
                return true;
            }
            int seed = got.getOrDefault('S', 0);
            for (int k = 0; k < got.get('N'); k++) {
                seed = seed * 1103515245 + 12345;
                int a = got.getOrDefault('A', 0);
                all.add(word.equals("still") ? 0
                    : word.equals("tone") ? wave(got.get('P'), a, k)
                    : word.equals("blow") ? (k % 2 == 1 ? -1 : 1) * (int) (a / (1L << Math.min(k / 2, 40)))
                    : (seed >>> 16) % 32768 % (2 * a + 1) - a);
            }
            return true;
        }

        public int map(int n) {
            need(in(n, 0, tape.length()));
            text = tape.substring(0, n);
            tape = "";
            fault = -1;
            if (maps.size() == 5) {
                return -1;
            }
            at = 0;
            List<int[]> all = new ArrayList<>();
            int[] ahead = {0, 0};
            while (blanksTo() < text.length()) {
                int begin = blanksTo();
                if (!next("[a-z]*").equals("mark")) {
                    bad(1, begin);
                    return kind - 10;
                }
                if (all.size() == 12) {
                    bad(3, begin);
                    return kind - 10;
                }
                int[] mark = new int[2];
                for (int k = 0; k < 2; k++) {
                    if (!number(ahead[k] + 1, 600 * (k + 1))) {
                        return kind - 10;
                    }
                    mark[k] = number;
                }
                if (!sign()) {
                    return kind - 10;
                }
                all.add(mark);
                ahead = mark;
            }
            if (all.isEmpty()) {
                bad(4, text.length());
                return kind - 10;
            }
            return addMap(all.toArray(new int[0][]));
        }

        public int fault() {
            return fault;
        }

        public int size(int sound) {
            return row(sound).length;
        }

        public int sample(int sound, int k) {
            int[] s = row(sound);
            return in(k, 0, s.length - 1) ? s[k] : -5000;
        }

        public int told(int map, int what) {
            int[][] marks = marksOf(map);
            need(in(what, 0, 2));
            return what == 0 ? marks.length : marks[marks.length - 1][2 - what];
        }

        public int place(int map, int t) {
            int[] all = places(marksOf(map));
            return in(t, 0, all.length - 1) ? all[t] : -1;
        }

        public int where(int map, int f) {
            return where(places(marksOf(map)), f);
        }

        // -- drawing --

        static boolean isWay(int wide, int over, int seek) {
            return in(wide, 4, 64) && in(over, 1, wide / 2) && in(seek, 0, 20);
        }

        public int pieces(int wide, int over, int seek) {
            need(isWay(wide, over, seek));
            int was = pieces[0];
            pieces = new int[] {wide, over, seek};
            return was;
        }

        private void takeDrawn(int[] s, int[][] map) {
            seams = new ArrayList<>();
            out = drawn(s, places(map), pieces, seams);
            drawnSound = s;
            drawnMap = map;
        }

        public int draw(int sound, int map) {
            int[] s = row(sound);
            int[][] marks = marksOf(map);
            needLong(s, marks, pieces[0]);
            takeDrawn(s, marks);
            return seams.size();
        }

        public int sharp(int sound, int map) {
            draw(sound, map);
            int moved = 0;
            int[] place = places(drawnMap);
            for (int b : blowsOf(drawnSound)) {
                int w = where(place, b);
                if (w != -1) {
                    moved++;
                    for (int k = 0; k < blowing[2] && b + k < drawnSound.length && w + k < out.length; k++) {
                        out[w + k] = drawnSound[b + k];
                    }
                }
            }
            return moved;
        }

        public int length() {
            return out.length;
        }

        public int result(int k) {
            return in(k, 0, out.length - 1) ? out[k] : -5000;
        }

        public int seam(int k, int what) {
            need(in(what, 0, 2));
            return in(k, 0, seams.size() - 1) ? seams.get(k)[what] : -5000;
        }

        public int keep() {
            return sounds.size() == 5 ? -1 : in(out.length, 1, 600) ? addSound(out.clone()) : -2;
        }

        // -- blows, harm, ways --

        public int blowing(int floor, int times, int width) {
            need(in(floor, 1, 2047) && in(times, 1, 20) && in(width, 1, 40));
            int was = blowing[0];
            blowing = new int[] {floor, times, width};
            return was;
        }

        private List<Integer> blowsOf(int[] s) {
            List<Integer> found = new ArrayList<>();
            for (int k = 0; k < s.length; k++) {
                int most = 0;
                boolean free = true;
                for (int j = 1; j <= blowing[2] && k - j >= 0; j++) {
                    most = Math.max(most, Math.abs(s[k - j]));
                    free = free && !found.contains(k - j);
                }
                if (free && Math.abs(s[k]) >= blowing[0] && Math.abs(s[k]) >= blowing[1] * most) {
                    found.add(k);
                }
            }
            return found;
        }

        public int blow(int sound, int k) {
            List<Integer> all = blowsOf(row(sound));
            return in(k, 0, all.size() - 1) ? all.get(k) : -1;
        }

        public int blows() {
            return blowsOf(out).size();
        }

        private int harmOf(int what, int[] s, int[] place, int[] result, List<int[]> sewn) {
            int width = blowing[2];
            if (what == 0) {
                return sewn.stream().mapToInt(seam -> seam[2]).sum();
            }
            if (what == 2) {
                return Math.max(0, blowsOf(result).size() - blowsOf(s).size());
            }
            int all = 0;
            if (what == 1) {
                for (int b : blowsOf(s)) {
                    int w = where(place, b);
                    if (w != -1) {
                        all += Math.abs(halves(result, w, 2 * width, s[b]) - halves(s, b, 2 * width, s[b]));
                    }
                }
                return all;
            }
            for (int t = 0; t < result.length; t++) {
                if (loudest(s, place[t], width) == 0) {
                    all += Math.abs(result[t]);
                }
            }
            return all;
        }

        private int counted(int[] s, int[] place, int[] result, List<int[]> sewn) {
            long all = 0;
            for (int what = 0; what < 4; what++) {
                all += (long) counts[what] * harmOf(what, s, place, result, sewn);
            }
            return (int) Math.min(all, 1000000000L);
        }

        public int harm(int what) {
            need(in(what, 0, 4));
            if (drawnSound == null) {
                return -1;
            }
            int[] place = places(drawnMap);
            return what == 4 ? counted(drawnSound, place, out, seams) : harmOf(what, drawnSound, place, out, seams);
        }

        public int weigh(int harm, int v) {
            need(in(harm, 0, 3) && in(v, 0, 999));
            int was = counts[harm];
            counts[harm] = v;
            return was;
        }

        public int way(int wide, int over, int seek) {
            need(isWay(wide, over, seek));
            if (ways.size() == 4) {
                return -1;
            }
            ways.add(new int[] {wide, over, seek});
            return ways.size() - 1;
        }

        private int bestBy(int[] s, int[][] marks, int from, int to) {
            for (int[] way : ways) {
                needLong(s, marks, way[0]);
            }
            int best = -1;
            int least = Integer.MAX_VALUE;
            for (int k = ways.size() - 1; k >= 0; k--) {
                List<int[]> sewn = new ArrayList<>();
                int[] place = places(marks);
                int[] result = drawn(s, place, ways.get(k), sewn);
                int own = to < 0 ? counted(s, place, result, sewn)
                    : sewn.stream().filter(seam -> seam[0] >= from && seam[0] < to).mapToInt(seam -> seam[2]).sum();
                if (own <= least) {
                    best = k;
                    least = own;
                }
            }
            return best;
        }

        public int best(int sound, int map) {
            return bestBy(row(sound), marksOf(map), 0, -1);
        }

        public int bestOf(int sound, int map, int part) {
            int[] s = row(sound);
            int[][] marks = marksOf(map);
            need(in(part, 0, marks.length - 1));
            return bestBy(s, marks, part == 0 ? 0 : marks[part - 1][1], marks[part][1]);
        }

        // -- parts --

        public int part(int samples, int weight, int least, int most) {
            need(in(samples, 1, 600) && in(weight, 0, 99) && in(least, 0, 1200) && in(most, least, 1200));
            if (parts.size() == 10) {
                return -1;
            }
            parts.add(new int[] {samples, weight, least, most});
            return parts.size();
        }

        /** One sample at a time, to the part that is next to get or lose one; null if it can't be. */
        private int[] plan(int total) {
            int[] lengths = new int[parts.size()];
            for (int k = 0; k < lengths.length; k++) {
                lengths[k] = Math.max(parts.get(k)[2], Math.min(parts.get(k)[3], parts.get(k)[0]));
            }
            int rest = total - Arrays.stream(lengths).sum();
            int way = rest < 0 ? -1 : 1;
            for (; rest != 0; rest -= way) {
                int chosen = -1;
                for (int k = 0; k < lengths.length; k++) {
                    boolean may = way > 0 ? lengths[k] < parts.get(k)[3] : lengths[k] > parts.get(k)[2];
                    if (may && (chosen < 0 || parts.get(k)[1] < parts.get(chosen)[1])) {
                        chosen = k;
                    }
                }
                if (chosen < 0) {
                    return null;
                }
                lengths[chosen] += way;
            }
            return lengths;
        }

        public int planned(int total, int part) {
            need(in(total, 0, 12000));
            int[] lengths = plan(total);
            if (lengths == null || !in(part, -1, lengths.length - 1)) {
                return -5000;
            }
            if (part >= 0) {
                return lengths[part];
            }
            int all = 0;
            for (int k = 0; k < lengths.length; k++) {
                all += parts.get(k)[1] * Math.abs(lengths[k] - parts.get(k)[0]);
            }
            return all;
        }

        public int planMap(int total) {
            need(in(total, 0, 12000));
            if (maps.size() == 5) {
                return -1;
            }
            int[] lengths = plan(total);
            if (lengths == null) {
                return -2;
            }
            List<int[]> both = new ArrayList<>();
            for (int k = 0; k < lengths.length; k++) {
                both.add(new int[] {parts.get(k)[0], lengths[k]});
            }
            for (int k = 0; k < both.size();) {
                if (both.get(k)[1] > 0) {
                    k++;
                } else if (k + 1 < both.size()) {
                    both.get(k + 1)[0] += both.remove(k)[0];
                } else if (k > 0) {
                    both.get(k - 1)[0] += both.remove(k)[0];
                } else {
                    both.remove(k);
                }
            }
            int[] ahead = {0, 0};
            for (int[] mark : both) {
                mark[0] += ahead[0];
                mark[1] += ahead[1];
                ahead = mark;
            }
            return both.isEmpty() || ahead[0] > 600 || ahead[1] > 1200 ? -2 : addMap(both.toArray(new int[0][]));
        }

        // -- pitch --

        private int[] rowOf(int sound, int from, int many, boolean right) {
            int[] s = row(sound);
            need(from >= 0 && many >= 0 && (long) from + many <= s.length && right);
            return Arrays.copyOfRange(s, from, from + many);
        }

        public int pitch(int sound, int from, int many) {
            int[] s = rowOf(sound, from, many, true);
            return nearestRepeat(s, 4, Math.min(60, s.length / 2));
        }

        public long turned(int sound, int p, int from, int many, int what) {
            return turned(rowOf(sound, from, many, in(p, 4, 60) && in(what, 0, 3)), p)[what];
        }

        public int sing(int sound, int map, int p, int w) {
            int[] s = row(sound);
            int[][] marks = marksOf(map);
            need(in(p, 4, 60) && in(w, 8, 60));
            needLong(s, marks, 0);
            int[] place = places(marks);
            int[] sung = new int[place.length];
            for (int t = 0; t < sung.length; t++) {
                sung[t] = wave(p, loudest(s, place[t] - place[t] % w, w), t);
            }
            clear();
            out = sung;
            return sung.length;
        }

        public int jump() {
            int most = 0;
            for (int k = 0; k + 1 < out.length; k++) {
                most = Math.max(most, Math.abs(out[k + 1] - out[k]));
            }
            return most;
        }

        // -- wrong speeds --

        public int crossing(int sound, int k) {
            List<Integer> all = crossings(row(sound));
            return in(k, 0, all.size() - 1) ? all.get(k) : -1;
        }

        private static int[] intervals(int[] s) {
            List<Integer> all = crossings(s);
            int[] found = new int[Math.max(0, all.size() - 1)];
            for (int k = 0; k < found.length; k++) {
                found[k] = all.get(k + 1) - all.get(k);
            }
            return found;
        }

        public int period(int sound) {
            int[] all = intervals(row(sound));
            return all.length == 0 ? -1 : 100 * Arrays.stream(all).sum() / all.length;
        }

        public int hum(int period) {
            need(in(period, 400, 6000));
            if (hums.size() == 6) {
                return -1;
            }
            hums.add(period);
            return hums.size();
        }

        public int meant(int sound, int what) {
            row(sound);
            need(in(what, 0, 1));
            int own = period(sound);
            if (own == -1 || hums.size() <= what) {
                return -1;
            }
            List<Integer> order = new ArrayList<>();
            for (int k = 0; k < hums.size(); k++) {
                order.add(k);
            }
            order.sort(Comparator.comparingInt(k -> Math.abs(hums.get(k) - own)));
            return what == 0 ? order.get(0) : Math.abs(hums.get(order.get(1)) - own) - Math.abs(hums.get(order.get(0)) - own);
        }

        public int undo(int sound, int period) {
            int[] s = row(sound);
            need(in(period, 400, 6000));
            if (maps.size() == 5) {
                return -1;
            }
            int own = period(sound);
            return own == -1 ? -2 : addMap(new int[] {s.length, Math.max(1, Math.min(1200, s.length * period / own))});
        }

        public int wobble(int sound, int what) {
            int[] all = intervals(row(sound));
            need(in(what, 0, 1));
            return all.length < 2 ? -1 : what == 0 ? nearestRepeat(all, 1, all.length / 2)
                : Arrays.stream(all).max().getAsInt() - Arrays.stream(all).min().getAsInt();
        }

        // -- beats, loops, joins --

        private final Map<List<Integer>, int[]> beats = new HashMap<>();

        private int[] beat(List<Integer> blows) {
            int[] known = beats.get(blows);
            if (known != null) {
                return known;
            }
            int[] best = {1, 0, 9999};
            for (int p = 4; p <= 200; p++) {
                for (int a = p - 1; a >= 0; a--) {
                    int off = 0;
                    for (int b : blows) {
                        int rest = Math.floorMod(b - a, p);
                        off += Math.min(rest, p - rest);
                    }
                    if (off * best[0] <= best[2] * p) {
                        best = new int[] {p, a, off};
                    }
                }
            }
            beats.put(blows, best);
            return best;
        }

        public int beat(int sound, int what) {
            List<Integer> all = blowsOf(row(sound));
            need(in(what, 0, 2));
            return all.size() < 2 ? -1 : beat(all)[what];
        }

        public int onto(int sound, int q) {
            int[] s = row(sound);
            need(in(q, 1, 200));
            if (maps.size() == 5) {
                return -1;
            }
            List<Integer> all = blowsOf(s);
            if (all.size() < 2) {
                return -2;
            }
            int[] grid = beat(all);
            List<int[]> marks = new ArrayList<>();
            int[] ahead = {0, 0};
            int first = (2 * (all.get(0) - grid[1]) + grid[0]) / (2 * grid[0]);
            for (int b : all) {
                int[] mark = {b, q * ((2 * (b - grid[1]) + grid[0]) / (2 * grid[0]) - first + 1)};
                if (mark[0] > ahead[0] && mark[1] > ahead[1] && marks.size() < 11) {
                    marks.add(mark);
                    ahead = mark;
                }
            }
            marks.add(new int[] {s.length, ahead[1] + s.length - ahead[0]});
            return marks.get(marks.size() - 1)[1] > 1200 ? -2 : addMap(marks.toArray(new int[0][]));
        }

        public int loop(int sound, int least, int what) {
            int[] s = row(sound);
            need(in(least, 1, 600) && in(what, 0, 2));
            int over = pieces[1];
            int[] best = null;
            for (int from = s.length; from >= 0; from--) {
                for (int to = from + least; to + over <= s.length; to++) {
                    int sum = 0;
                    for (int k = 0; k < over; k++) {
                        sum += Math.abs(s[from + k] - s[to + k]);
                    }
                    if (best == null || sum < best[2] || sum == best[2] && to - from >= best[1] - best[0]) {
                        best = new int[] {from, to, sum};
                    }
                }
            }
            return best == null ? -1 : best[what];
        }

        public int join(int sound, int other) {
            int[] first = row(sound);
            int[] second = row(other);
            int over = pieces[1];
            if (sounds.size() == 5) {
                return -1;
            }
            if (first.length < over || second.length < over) {
                return -2;
            }
            int begin = -1;
            int least = Integer.MAX_VALUE;
            for (int b = first.length - over; b >= Math.max(0, first.length - over - pieces[2]); b--) {
                int sum = unlike(first, b, second, 0, over);
                if (sum < least) {
                    least = sum;
                    begin = b;
                }
            }
            if (begin + second.length > 600) {
                return -2;
            }
            int[] both = Arrays.copyOf(first, begin + second.length);
            for (int k = 0; k < second.length; k++) {
                both[begin + k] = k < over ? (first[begin + k] * (over - k) + second[k] * k) / over : second[k];
            }
            return addSound(both);
        }

        public int shift(int sound, int n, int d) {
            int[] s = row(sound);
            need(in(n, 1, 9) && in(d, 1, 9));
            int many = Math.max(1, Math.min(1200, s.length * d / n));
            if (many < pieces[0] || many > 600) {
                throw new IllegalStateException();
            }
            int[] padded = Arrays.copyOf(s, s.length + 20);
            int[] moved = new int[many];
            for (int t = 0; t < many; t++) {
                int p = t * n / d;
                int r = t * n % d;
                moved[t] = (padded[p] * (d - r) + padded[p + 1] * r) / d;
            }
            takeDrawn(moved, new int[][] {{many, s.length}});
            return seams.size();
        }

        // -- colours, peaks, films --

        public int colour(int sound, int w) {
            int[] s = row(sound);
            need(in(w, 4, 60));
            int all = 0;
            for (int k = 0; k < s.length || k < out.length; k += w) {
                all += Math.abs(loudest(s, k, w) - loudest(out, k, w));
            }
            return all;
        }

        private static List<Integer> peaks(int[] s) {
            List<Integer> found = new ArrayList<>();
            for (int p = 4; p <= 60; p++) {
                long own = turned(s, p)[2];
                if ((p == 4 || own > turned(s, p - 1)[2]) && (p == 60 || own >= turned(s, p + 1)[2])) {
                    found.add(p);
                }
            }
            return found;
        }

        public int peak(int sound, int from, int many, int k) {
            int[] s = rowOf(sound, from, many, true);
            List<Integer> all = peaks(s);
            all.sort(Comparator.comparingLong(p -> -turned(s, p)[2]));
            return in(k, 0, all.size() - 1) ? all.get(k) : -1;
        }

        public int lock(int sound, int p, int from, int many) {
            int[] s = rowOf(sound, from, many, in(p, 4, 60));
            return peaks(s).stream().min(Comparator.comparingInt(peak -> Math.abs(peak - p))).orElse(-1);
        }

        public int steady(int sound) {
            int[] s = row(sound);
            if (maps.size() == 5) {
                return -1;
            }
            List<Integer> all = crossings(s);
            int c = all.size();
            if (c < 2) {
                return -2;
            }
            List<Integer> chosen = new ArrayList<>();
            for (int k = 0; k < c; k += 1 + (c - 1) / 11) {
                chosen.add(k);
            }
            if (!chosen.contains(c - 1)) {
                if (chosen.size() == 11) {
                    chosen.remove(10);
                }
                chosen.add(c - 1);
            }
            List<int[]> marks = new ArrayList<>();
            int[] ahead = {0, 0};
            for (int k : chosen) {
                int[] mark = {all.get(k), all.get(0) + (all.get(c - 1) - all.get(0)) * k / (c - 1)};
                if (mark[0] > ahead[0] && mark[1] > ahead[1]) {
                    marks.add(mark);
                    ahead = mark;
                }
            }
            marks.add(new int[] {s.length, ahead[1] + s.length - ahead[0]});
            return addMap(marks.toArray(new int[0][]));
        }

        public int film(int sound, int frames, int each) {
            int[] s = row(sound);
            need(in(frames, 1, 1200) && in(each, 1, 99));
            return maps.size() == 5 ? -1 : frames * each > 1200 ? -2 : addMap(new int[] {s.length, frames * each});
        }

        // -- live --

        public int live(int in, int out, int holds, int lag, int ticks) {
            need(in(in, 0, 99) && in(out, 0, 99) && in(holds, 1, 999) && in(lag, 0, 999) && in(ticks, 1, 999));
            int held = 0;
            for (int tick = 0; tick < ticks; tick++) {
                held += in;
                int goes = tick < lag ? 0 : out;
                if (held > holds || held < goes) {
                    return tick;
                }
                held -= goes;
            }
            return -1;
        }

        public int lag(int in, int out, int holds, int ticks) {
            return lags(in, out, out, holds, ticks);
        }

        public int lags(int in, int a, int b, int holds, int ticks) {
            need(in(in, 0, 99) && in(a, 0, 99) && in(b, a, 99) && in(holds, 1, 999) && in(ticks, 1, 999));
            for (int lag = 0; lag < 100; lag++) {
                int fails = 0;
                for (int each = a; each <= b; each++) {
                    fails += live(in, each, holds, lag, ticks) == -1 ? 0 : 1;
                }
                if (fails == 0) {
                    return lag;
                }
            }
            return -1;
        }

        // -- lost, images, counts --

        public int lost(int sound, int map, int back) {
            int[] s = row(sound);
            int[][] there = marksOf(map);
            int[][] again = marksOf(back);
            needLong(s, there, pieces[0]);
            int[] middle = drawn(s, places(there), pieces, new ArrayList<>());
            needLong(middle, again, pieces[0]);
            int[] end = drawn(middle, places(again), pieces, new ArrayList<>());
            int both = Math.min(s.length, end.length);
            return unlike(s, 0, end, 0, both) + 2047 * (Math.max(s.length, end.length) - both);
        }

        private static List<int[]> copies(List<int[]> of) {
            List<int[]> all = new ArrayList<>();
            for (int[] one : of) {
                all.add(one.clone());
            }
            return all;
        }

        public int image() {
            if (images.size() == 3) {
                return -1;
            }
            Kept kept = new Kept();
            kept.sounds = copies(sounds);
            kept.maps = new ArrayList<>(maps);
            kept.pieces = pieces.clone();
            kept.blowing = blowing.clone();
            kept.counts = counts.clone();
            kept.ways = copies(ways);
            kept.parts = copies(parts);
            kept.hums = new ArrayList<>(hums);
            images.add(kept);
            return images.size();
        }

        private void clear() {
            out = new int[0];
            seams = new ArrayList<>();
            drawnSound = null;
            drawnMap = null;
        }

        public int restore() {
            if (images.isEmpty()) {
                return -1;
            }
            Kept kept = images.remove(images.size() - 1);
            sounds = kept.sounds;
            maps = kept.maps;
            pieces = kept.pieces;
            blowing = kept.blowing;
            counts = kept.counts;
            ways = kept.ways;
            parts = kept.parts;
            hums = kept.hums;
            clear();
            return images.size();
        }

        public int count(int what) {
            int[] all = {sounds.size(), maps.size(), seams.size(), ways.size(), parts.size(), hums.size(), images.size(), tape.length()};
            return in(what, 0, 7) ? all[what] : -1;
        }

        // -- rows and numbers --

        static int wave(int p, int a, int k) {
            int t = 4 * (k % p);
            return t < p ? a * t / p : t < 3 * p ? a * (2 * p - t) / p : a * (t - 4 * p) / p;
        }

        static int[] places(int[][] marks) {
            int[] place = new int[marks[marks.length - 1][1]];
            for (int t = 0; t < place.length; t++) {
                int k = 0;
                while (marks[k][1] <= t) {
                    k++;
                }
                int f = k == 0 ? 0 : marks[k - 1][0];
                int begin = k == 0 ? 0 : marks[k - 1][1];
                place[t] = f + (marks[k][0] - f) * (t - begin) / (marks[k][1] - begin);
            }
            return place;
        }

        static int where(int[] place, int f) {
            for (int t = 0; t < place.length; t++) {
                if (place[t] >= f) {
                    return t;
                }
            }
            return -1;
        }

        static int unlike(int[] a, int from, int[] b, int begin, int many) {
            int sum = 0;
            for (int k = 0; k < many; k++) {
                sum += Math.abs(a[from + k] - b[begin + k]);
            }
            return sum;
        }

        static int[] drawn(int[] s, int[] place, int[] pieces, List<int[]> sewn) {
            int wide = pieces[0];
            int over = pieces[1];
            int[] out = new int[place.length + 64];
            System.arraycopy(s, 0, out, 0, wide);
            for (int r = wide - over; r < place.length; r += wide - over) {
                int most = s.length - wide;
                int faded = Math.min(over, place.length - r);
                List<Integer> offsets = new ArrayList<>();
                for (int o = -pieces[2]; o <= pieces[2]; o++) {
                    if (in(place[r] + o, 0, most)) {
                        offsets.add(o);
                    }
                }
                if (offsets.isEmpty()) {
                    offsets.add(place[r] < 0 ? -place[r] : most - place[r]);
                }
                int chosen = offsets.get(0);
                for (int o : offsets) {
                    int by = unlike(s, place[r] + o, out, r, faded) - unlike(s, place[r] + chosen, out, r, faded);
                    if (by < 0 || by == 0 && Math.abs(o) < Math.abs(chosen)) {
                        chosen = o;
                    }
                }
                sewn.add(new int[] {r, chosen, unlike(s, place[r] + chosen, out, r, faded)});
                for (int k = 0; k < wide; k++) {
                    int came = s[place[r] + chosen + k];
                    out[r + k] = k >= over ? came : (out[r + k] * (over - k) + came * k) / over;
                }
            }
            return Arrays.copyOf(out, place.length);
        }

        static int halves(int[] row, int from, int many, int blow) {
            int found = 0;
            for (int k = from; k < Math.min(from + many, row.length); k++) {
                found += Math.abs(row[k]) * 2 >= Math.abs(blow) ? 1 : 0;
            }
            return found;
        }

        static int loudest(int[] s, int from, int many) {
            int most = 0;
            for (int k = from; k < Math.min(from + many, s.length); k++) {
                most = Math.max(most, Math.abs(s[k]));
            }
            return most;
        }

        static int nearestRepeat(int[] row, int least, int most) {
            int best = -1;
            long sumOfBest = 0;
            for (int p = most; p >= least; p--) {
                long sum = unlike(row, 0, row, p, row.length - p);
                if (best < 0 || sum * (row.length - best) <= sumOfBest * (row.length - p)) {
                    best = p;
                    sumOfBest = sum;
                }
            }
            return best;
        }

        static long[] turned(int[] s, int p) {
            long in = 0;
            long side = 0;
            for (int i = 0; i < s.length; i++) {
                int k = i % p;
                in += k * 2 < p ? s[i] : -s[i];
                side += (k + p / 4) % p * 2 < p ? s[i] : -s[i];
            }
            long eighth = (side < 0 ? 4 : 0) | (in < 0 ? 2 : 0) | (Math.abs(side) > Math.abs(in) ? 1 : 0);
            return new long[] {in, side, in * in + side * side, eighth};
        }

        static List<Integer> crossings(int[] s) {
            List<Integer> found = new ArrayList<>();
            for (int k = 1; k < s.length; k++) {
                if (s[k] >= 0 && s[k - 1] < 0) {
                    found.add(k);
                }
            }
            return found;
        }
    }
}
