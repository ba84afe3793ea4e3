import java.util.ArrayList;
import java.util.Arrays;
import java.util.List;

/**
 * Random sounds and maps, and next to each answer the document's words followed in the
 * plainest and slowest way: by trying everything. The numbers are the same in every run.
 */
public final class PlainlyTest {
    private long state;
    private DrawnSounds x;
    private int floor = 200, times = 3, width = 8;
    private int wide = 16, over = 4, seek = 3;
    private final int[] counts = {1, 100, 500, 1};

    public static void main(String[] args) {
        for (int seed = 1; seed <= 120; seed++) {
            new PlainlyTest().run(seed);
        }
        for (int seed = 1; seed <= 40; seed++) {
            new PlainlyTest().plans(seed);
            new PlainlyTest().lives(seed);
        }
        Due.end();
    }

    private int draw(int least, int most) {
        state = state * 6364136223846793005L + 1442695040888963407L;
        return least + (int) Math.floorMod(state >>> 33, (long) (most - least + 1));
    }

    // ---- the plain ways ----

    private static int wave(int p, int a, int k) {
        int t = 4 * (k % p);
        return t < p ? a * t / p : t < 3 * p ? a * (2 * p - t) / p : a * (t - 4 * p) / p;
    }

    private static int[] places(int[][] marks) {
        int[] place = new int[marks[marks.length - 1][1]];
        int f = 0;
        int t = 0;
        for (int[] mark : marks) {
            for (int k = t; k < mark[1]; k++) {
                place[k] = f + (mark[0] - f) * (k - t) / (mark[1] - t);
            }
            f = mark[0];
            t = mark[1];
        }
        return place;
    }

    private static int where(int[] place, int f) {
        for (int t = 0; t < place.length; t++) {
            if (place[t] >= f) {
                return t;
            }
        }
        return -1;
    }

    private List<Integer> blows(int[] s) {
        List<Integer> found = new ArrayList<>();
        for (int k = 0; k < s.length; k++) {
            int most = 0;
            boolean free = true;
            for (int j = Math.max(0, k - width); j < k; j++) {
                most = Math.max(most, Math.abs(s[j]));
                free &= !found.contains(j);
            }
            if (free && Math.abs(s[k]) >= floor && Math.abs(s[k]) >= times * most) {
                found.add(k);
            }
        }
        return found;
    }

    /** The result, and r, o and UNLIKE of each seam. */
    private static int[] drawn(int[] s, int[] place, int wide, int over, int seek, List<int[]> seams) {
        int length = place.length;
        int[] out = new int[length + 100];
        System.arraycopy(s, 0, out, 0, wide);
        for (int r = wide - over; r < length; r += wide - over) {
            List<int[]> tries = new ArrayList<>();
            for (int o = -seek; o <= seek; o++) {
                if (place[r] + o >= 0 && place[r] + o <= s.length - wide) {
                    tries.add(new int[] {o, unlike(s, place[r] + o, out, r, over, length)});
                }
            }
            if (tries.isEmpty()) {
                int o = Math.max(0, Math.min(s.length - wide, place[r])) - place[r];
                tries.add(new int[] {o, unlike(s, place[r] + o, out, r, over, length)});
            }
            tries.sort((a, b) -> a[1] != b[1] ? a[1] - b[1]
                : Math.abs(a[0]) != Math.abs(b[0]) ? Math.abs(a[0]) - Math.abs(b[0]) : a[0] - b[0]);
            int o = tries.get(0)[0];
            seams.add(new int[] {r, o, tries.get(0)[1]});
            for (int k = 0; k < wide; k++) {
                int came = s[place[r] + o + k];
                out[r + k] = k < over ? (out[r + k] * (over - k) + came * k) / over : came;
            }
        }
        return Arrays.copyOf(out, length);
    }

    private static int unlike(int[] s, int from, int[] out, int r, int over, int length) {
        int sum = 0;
        for (int k = 0; k < over && r + k < length; k++) {
            sum += Math.abs(s[from + k] - out[r + k]);
        }
        return sum;
    }

    private int sharpened(int[] s, int[] place, int[] out) {
        int moved = 0;
        for (int b : blows(s)) {
            int w = where(place, b);
            if (w >= 0) {
                moved++;
                for (int k = 0; k < width && b + k < s.length && w + k < out.length; k++) {
                    out[w + k] = s[b + k];
                }
            }
        }
        return moved;
    }

    private int harm(int what, int[] s, int[] place, int[] out, List<int[]> seams) {
        int all = 0;
        if (what == 0) {
            for (int[] seam : seams) {
                all += seam[2];
            }
        } else if (what == 1) {
            for (int b : blows(s)) {
                int w = where(place, b);
                if (w >= 0) {
                    all += Math.abs(halves(out, w, s[b]) - halves(s, b, s[b]));
                }
            }
        } else if (what == 2) {
            all = Math.max(0, blows(out).size() - blows(s).size());
        } else {
            for (int t = 0; t < out.length; t++) {
                boolean silent = true;
                for (int k = 0; k < width; k++) {
                    silent &= place[t] + k >= s.length || s[place[t] + k] == 0;
                }
                all += silent ? Math.abs(out[t]) : 0;
            }
        }
        return all;
    }

    private int halves(int[] row, int from, int blow) {
        int found = 0;
        for (int k = 0; k < 2 * width; k++) {
            if (from + k < row.length && Math.abs(row[from + k]) >= Math.abs(blow) / 2.0) {
                found++;
            }
        }
        return found;
    }

    private int counted(int[] s, int[] place, int[] out, List<int[]> seams) {
        long all = 0;
        for (int what = 0; what < 4; what++) {
            all += (long) counts[what] * harm(what, s, place, out, seams);
        }
        return (int) Math.min(all, 1000000000);
    }

    private static int loudest(int[] s, int from, int many) {
        int most = 0;
        for (int k = from; k < from + many; k++) {
            most = k < s.length ? Math.max(most, Math.abs(s[k])) : most;
        }
        return most;
    }

    private static long[] turned(int[] s, int p, int from, int many) {
        long in = 0;
        long side = 0;
        for (int i = 0; i < many; i++) {
            in += 2 * (i % p) < p ? s[from + i] : -s[from + i];
            side += 2 * ((i % p + p / 4) % p) < p ? s[from + i] : -s[from + i];
        }
        long eighth = (side < 0 ? 4 : 0) + (in < 0 ? 2 : 0) + (Math.abs(side) > Math.abs(in) ? 1 : 0);
        return new long[] {in, side, in * in + side * side, eighth};
    }

    private static List<Integer> peaks(int[] s, int from, int many) {
        List<Integer> found = new ArrayList<>();
        for (int p = 4; p <= 60; p++) {
            long own = turned(s, p, from, many)[2];
            boolean above = p == 4 || own > turned(s, p - 1, from, many)[2];
            if (above && (p == 60 || own >= turned(s, p + 1, from, many)[2])) {
                found.add(p);
            }
        }
        found.sort((a, b) -> {
            int by = Long.compare(turned(s, b, from, many)[2], turned(s, a, from, many)[2]);
            return by != 0 ? by : a - b;
        });
        return found;
    }

    private static List<Integer> crossings(int[] s) {
        List<Integer> found = new ArrayList<>();
        for (int k = 1; k < s.length; k++) {
            if (s[k] >= 0 && s[k - 1] < 0) {
                found.add(k);
            }
        }
        return found;
    }

    private static int nearestRepeat(int[] row, int least, int most) {
        int best = -1;
        long sumOfBest = 0;
        long pairsOfBest = 1;
        for (int p = least; p <= most; p++) {
            long sum = 0;
            for (int i = 0; i + p < row.length; i++) {
                sum += Math.abs(row[i] - row[i + p]);
            }
            if (best < 0 || sum * pairsOfBest < sumOfBest * (row.length - p)) {
                best = p;
                sumOfBest = sum;
                pairsOfBest = row.length - p;
            }
        }
        return best;
    }

    private static int[] beat(List<Integer> blows) {
        int[] best = null;
        for (int p = 4; p <= 200; p++) {
            for (int a = 0; a < p; a++) {
                int off = 0;
                for (int b : blows) {
                    int rest = Math.floorMod(b - a, p);
                    off += Math.min(rest, p - rest);
                }
                int by = best == null ? -1 : Integer.compare(off * best[0], best[2] * p);
                if (by < 0 || by == 0 && p > best[0]) {
                    best = new int[] {p, a, off};
                }
            }
        }
        return best;
    }

    private int[] loop(int[] s, int least) {
        int[] best = null;
        for (int from = 0; from < s.length; from++) {
            for (int to = from + least; to + over <= s.length; to++) {
                int sum = 0;
                for (int k = 0; k < over; k++) {
                    sum += Math.abs(s[from + k] - s[to + k]);
                }
                boolean longer = best != null && sum == best[2] && to - from > best[1] - best[0];
                if (best == null || sum < best[2] || longer) {
                    best = new int[] {from, to, sum};
                }
            }
        }
        return best;
    }

    private int[] joined(int[] first, int[] second) {
        int best = -1;
        int least = 0;
        for (int o = 0; o <= seek && first.length - over - o >= 0; o++) {
            int sum = 0;
            for (int k = 0; k < over; k++) {
                sum += Math.abs(first[first.length - over - o + k] - second[k]);
            }
            if (best < 0 || sum < least) {
                best = o;
                least = sum;
            }
        }
        int begin = first.length - over - best;
        int[] out = new int[begin + second.length];
        System.arraycopy(first, 0, out, 0, begin);
        for (int k = 0; k < second.length; k++) {
            out[begin + k] = k < over ? (first[begin + k] * (over - k) + second[k] * k) / over : second[k];
        }
        return out;
    }

    // ---- what is tried ----

    private int[] randomSound(StringBuilder text) {
        List<Integer> all = new ArrayList<>();
        int clauses = draw(2, 9);
        for (int c = 0; c < clauses; c++) {
            int kind = draw(0, 4);
            int n = draw(1, 60);
            int p = draw(4, 60);
            int a = draw(0, 2) == 0 ? draw(1, 20) : draw(1, 2000);
            if (kind == 0) {
                text.append("still ").append(n).append(';');
                for (int k = 0; k < n; k++) {
                    all.add(0);
                }
            } else if (kind == 1) {
                text.append("tone ").append(p).append(' ').append(a).append(' ').append(n).append(';');
                for (int k = 0; k < n; k++) {
                    all.add(wave(p, a, k));
                }
            } else if (kind == 2) {
                text.append("blow ").append(a).append(' ').append(n).append(';');
                for (int k = 0; k < n; k++) {
                    int value = (int) (a / Math.pow(2, k / 2));
                    all.add(k % 2 == 1 ? -value : value);
                }
            } else if (kind == 3) {
                int seed = draw(0, 9999);
                text.append("hiss ").append(a).append(' ').append(n).append(' ').append(seed).append(';');
                for (int k = 0; k < n; k++) {
                    seed = seed * 1103515245 + 12345;
                    all.add((seed >> 16 & 32767) % (2 * a + 1) - a);
                }
            } else {
                text.append("hum ").append(p).append(' ').append(a).append(';');
                for (int k = 0; k < all.size(); k++) {
                    all.set(k, Math.max(-2047, Math.min(2047, all.get(k) + wave(p, a, k))));
                }
            }
        }
        text.append("still 4;");
        int[] out = new int[all.size() + 4];
        for (int k = 0; k < all.size(); k++) {
            out[k] = all.get(k);
        }
        return out;
    }

    private int[][] randomMap(int samples, StringBuilder text) {
        int marks = draw(1, 12);
        List<int[]> all = new ArrayList<>();
        int f = 0;
        int t = 0;
        for (int k = 0; k < marks; k++) {
            f += draw(1, Math.max(1, 2 * samples / marks));
            t += draw(1, draw(0, 1) == 0 ? 30 : 1150 / marks);
            if (f <= samples && f <= 600 && t <= 1200 || all.isEmpty()) {
                all.add(new int[] {f = Math.min(f, Math.min(600, samples)), t = Math.min(t, 1200)});
                text.append("mark ").append(f).append(' ').append(t).append(';');
            } else {
                break;
            }
        }
        return all.toArray(new int[0][]);
    }

    private void settings() {
        wide = draw(4, draw(0, 1) == 0 ? 10 : 64);
        over = draw(1, wide / 2);
        seek = draw(0, 20);
        x.pieces(wide, over, seek);
        floor = draw(0, 3) == 0 ? draw(1, 40) : draw(1, 900);
        times = draw(1, 6);
        width = draw(1, draw(0, 1) == 0 ? 4 : 40);
        x.blowing(floor, times, width);
        for (int k = 0; k < 4; k++) {
            counts[k] = draw(0, 999);
            x.weigh(k, counts[k]);
        }
    }

    private void run(int seed) {
        state = seed;
        x = new DrawnSounds();
        String at = "seed " + seed + ": ";
        StringBuilder text = new StringBuilder();
        int[] s = randomSound(text);
        Due.same(at + text, Due.sound(x, text.toString()), 0);
        Due.samples(at + "sound", x, 0, s);
        StringBuilder other = new StringBuilder();
        int[] s2 = randomSound(other);
        Due.same(at + other, Due.sound(x, other.toString()), 1);
        StringBuilder marks = new StringBuilder();
        int[][] map = randomMap(s.length, marks);
        Due.same(at + marks, Due.map(x, marks.toString()), 0);
        StringBuilder backMarks = new StringBuilder();
        int[][] back = randomMap(map[map.length - 1][1], backMarks);
        Due.same(at + backMarks, Due.map(x, backMarks.toString()), 1);
        settings();
        int[] place = places(map);
        drawings(at, s, map, place);
        ways(at, s, map, place);
        lost(at, s, place, places(back), map, back);
        tones(at, s);
        crossed(at, s);
        beats(at, s);
        loopsAndJoins(at, s, s2);
        shifted(at, s);
    }

    private void drawings(String at, int[] s, int[][] map, int[] place) {
        int p = draw(4, 60);
        int w = draw(8, 60);
        int f = draw(-1, s.length + 1);
        Due.same(at + "where " + f, x.where(0, f), where(place, f));
        for (int t = 0; t < place.length; t += 7) {
            Due.same(at + "place " + t, x.place(0, t), place[t]);
        }
        if (s.length < wide) {
            Due.thrown(at + "draw", Due.UNFIT, () -> x.draw(0, 0));
            Due.thrown(at + "sharp", Due.UNFIT, () -> x.sharp(0, 0));
        } else {
            List<int[]> seams = new ArrayList<>();
            int[] out = drawn(s, place, wide, over, seek, seams);
            Due.same(at + "draw", x.draw(0, 0), seams.size());
            Due.result(at + "drawn", x, out);
            for (int k = 0; k < seams.size(); k++) {
                for (int what = 0; what < 3; what++) {
                    Due.same(at + "seam " + k + " " + what, x.seam(k, what), seams.get(k)[what]);
                }
            }
            harms(at + "drawn ", s, place, out, seams);
            Due.same(at + "sharp", x.sharp(0, 0), sharpened(s, place, out));
            Due.result(at + "sharp", x, out);
            harms(at + "sharp ", s, place, out, seams);
            int steps = 0;
            for (int k = 0; k < Math.max(s.length, out.length); k += p) {
                steps += Math.abs(loudest(s, k, p) - loudest(out, k, p));
            }
            Due.same(at + "colour", x.colour(0, p), steps);
        }
        int[] sung = new int[place.length];
        int jump = 0;
        for (int t = 0; t < sung.length; t++) {
            sung[t] = wave(p, loudest(s, place[t] / w * w, w), t);
            jump = t == 0 ? 0 : Math.max(jump, Math.abs(sung[t] - sung[t - 1]));
        }
        Due.same(at + "sing", x.sing(0, 0, p, w), sung.length);
        Due.result(at + "sung", x, sung);
        Due.same(at + "jump", x.jump(), jump);
    }

    private void harms(String at, int[] s, int[] place, int[] out, List<int[]> seams) {
        for (int what = 0; what < 4; what++) {
            Due.same(at + "harm " + what, x.harm(what), harm(what, s, place, out, seams));
        }
        Due.same(at + "counted", x.harm(4), counted(s, place, out, seams));
        Due.same(at + "blows", x.blows(), blows(out).size());
        List<Integer> own = blows(s);
        for (int k = 0; k <= own.size(); k++) {
            Due.same(at + "blow " + k, x.blow(0, k), k < own.size() ? own.get(k) : -1);
        }
    }

    private void ways(String at, int[] s, int[][] map, int[] place) {
        int part = draw(0, map.length - 1);
        int from = part == 0 ? 0 : map[part - 1][1];
        int best = -1;
        int bestOf = -1;
        int least = 0;
        int leastOf = 0;
        for (int way = 0; way < draw(2, 4); way++) {
            int w = draw(4, Math.min(64, s.length));
            int o = draw(1, w / 2);
            int k = draw(0, 20);
            int number = x.way(w, o, k);
            List<int[]> seams = new ArrayList<>();
            int[] out = drawn(s, place, w, o, k, seams);
            int all = counted(s, place, out, seams);
            int unlike = 0;
            for (int[] seam : seams) {
                unlike += seam[0] >= from && seam[0] < map[part][1] ? seam[2] : 0;
            }
            if (best < 0 || all < least) {
                best = number;
                least = all;
            }
            if (bestOf < 0 || unlike < leastOf) {
                bestOf = number;
                leastOf = unlike;
            }
        }
        Due.same(at + "best", x.best(0, 0), best);
        Due.same(at + "best of " + part, x.bestOf(0, 0, part), bestOf);
    }

    private void lost(String at, int[] s, int[] place, int[] placeBack, int[][] map, int[][] back) {
        int asked = back[back.length - 1][0];
        if (s.length < wide || place.length < wide || place.length < asked) {
            Due.thrown(at + "lost", Due.UNFIT, () -> x.lost(0, 0, 1));
            return;
        }
        int[] there = drawn(s, place, wide, over, seek, new ArrayList<>());
        int[] again = drawn(there, placeBack, wide, over, seek, new ArrayList<>());
        int all = 2047 * Math.abs(s.length - again.length);
        for (int k = 0; k < Math.min(s.length, again.length); k++) {
            all += Math.abs(s[k] - again[k]);
        }
        Due.same(at + "lost", x.lost(0, 0, 1), all);
    }

    private void tones(String at, int[] s) {
        int from = draw(0, s.length);
        int many = draw(0, s.length - from);
        int[] row = Arrays.copyOfRange(s, from, from + many);
        Due.same(at + "pitch", x.pitch(0, from, many), nearestRepeat(row, 4, Math.min(60, many / 2)));
        for (int turn = 0; turn < 5; turn++) {
            int p = draw(4, 60);
            for (int what = 0; what < 4; what++) {
                Due.same(at + "turned " + p, x.turned(0, p, from, many, what), turned(s, p, from, many)[what]);
            }
        }
        List<Integer> peaks = peaks(s, from, many);
        for (int k = -1; k <= peaks.size(); k++) {
            int due = k < 0 || k == peaks.size() ? -1 : peaks.get(k);
            Due.same(at + "peak " + k, x.peak(0, from, many, k), due);
        }
        int p = draw(4, 60);
        int nearest = -1;
        for (int peak : peaks) {
            int by = Math.abs(peak - p) - Math.abs(nearest - p);
            nearest = nearest < 0 || by < 0 || by == 0 && peak < nearest ? peak : nearest;
        }
        Due.same(at + "lock " + p, x.lock(0, p, from, many), nearest);
    }

    private void crossed(String at, int[] s) {
        List<Integer> all = crossings(s);
        for (int k = -1; k <= all.size(); k++) {
            Due.same(at + "crossing " + k, x.crossing(0, k), k < 0 || k == all.size() ? -1 : all.get(k));
        }
        int c = all.size();
        int[] intervals = new int[Math.max(0, c - 1)];
        for (int k = 0; k + 1 < c; k++) {
            intervals[k] = all.get(k + 1) - all.get(k);
        }
        int period = c < 2 ? -1 : 100 * Arrays.stream(intervals).sum() / (c - 1);
        Due.same(at + "period", x.period(0), period);
        int[] sorted = intervals.clone();
        Arrays.sort(sorted);
        Due.same(at + "wobble", x.wobble(0, 0), c < 3 ? -1 : nearestRepeat(intervals, 1, (c - 1) / 2));
        Due.same(at + "swing", x.wobble(0, 1), c < 3 ? -1 : sorted[c - 2] - sorted[0]);
        humsMeant(at, period);
        int told = draw(400, 6000);
        int undone = x.undo(0, told);
        Due.same(at + "undo", undone, c < 2 ? -2 : 2);
        if (undone == 2) {
            Due.same(at + "undone", x.told(2, 1), Math.max(1, Math.min(1200, s.length * told / period)));
            Due.same(at + "undone", x.told(2, 2), s.length);
        }
        steadied(at, s, all, undone < 0 ? 2 : 3);
    }

    private void humsMeant(String at, int period) {
        List<int[]> far = new ArrayList<>();
        for (int k = 0; k < draw(2, 6); k++) {
            int hum = draw(400, 2500);
            x.hum(hum);
            far.add(new int[] {Math.abs(hum - period), k});
        }
        far.sort((a, b) -> a[0] != b[0] ? a[0] - b[0] : a[1] - b[1]);
        Due.same(at + "meant", x.meant(0, 0), period < 0 || far.isEmpty() ? -1 : far.get(0)[1]);
        Due.same(at + "rival", x.meant(0, 1), period < 0 || far.size() < 2 ? -1 : far.get(1)[0] - far.get(0)[0]);
    }

    private void steadied(String at, int[] s, List<Integer> all, int next) {
        int c = all.size();
        int steady = x.steady(0);
        Due.same(at + "steady", steady, c < 2 ? -2 : next);
        if (c < 2) {
            return;
        }
        int q = 1 + (c - 1) / 11;
        List<Integer> chosen = new ArrayList<>();
        for (int k = 0; k < c; k += q) {
            chosen.add(k);
        }
        if (chosen.get(chosen.size() - 1) != c - 1) {
            chosen.add(c - 1);
        }
        if (chosen.size() > 11) {
            chosen.remove(chosen.size() - 2);
        }
        Due.same(at + "steady marks", x.told(steady, 0), chosen.size() + 1);
        Due.same(at + "steady f", x.told(steady, 2), s.length);
        Due.same(at + "steady length", x.told(steady, 1), s.length);
        for (int k : chosen) {
            int due = all.get(0) + (all.get(c - 1) - all.get(0)) * k / (c - 1);
            Due.same(at + "steady " + k, x.place(steady, due), all.get(k));
            Due.same(at + "steady " + k, x.where(steady, all.get(k)), due);
        }
    }

    private void beats(String at, int[] s) {
        List<Integer> all = blows(s);
        int[] beat = all.size() < 2 ? new int[] {-1, -1, -1} : beat(all);
        for (int what = 0; what < 3; what++) {
            Due.same(at + "beat " + what, x.beat(0, what), beat[what]);
        }
        int q = draw(1, 200);
        int number = x.count(1);
        if (number == 5) {
            Due.same(at + "onto", x.onto(0, q), -1);
            return;
        }
        if (all.size() < 2) {
            Due.same(at + "onto", x.onto(0, q), -2);
            return;
        }
        List<int[]> marks = new ArrayList<>();
        marks.add(new int[] {0, 0});
        int first = (2 * (all.get(0) - beat[1]) + beat[0]) / (2 * beat[0]);
        for (int b : all) {
            int t = q * ((2 * (b - beat[1]) + beat[0]) / (2 * beat[0]) - first + 1);
            int[] ahead = marks.get(marks.size() - 1);
            if (b > ahead[0] && t > ahead[1] && marks.size() <= 11) {
                marks.add(new int[] {b, t});
            }
        }
        int[] last = marks.get(marks.size() - 1);
        marks.add(new int[] {s.length, last[1] + s.length - last[0]});
        marks.remove(0);
        int length = marks.get(marks.size() - 1)[1];
        Due.same(at + "onto", x.onto(0, q), length > 1200 ? -2 : number);
        if (length <= 1200) {
            Due.same(at + "onto marks", x.told(number, 0), marks.size());
            int[] place = places(marks.toArray(new int[0][]));
            Due.same(at + "onto length", x.told(number, 1), place.length);
            for (int t = 0; t < place.length; t += 3) {
                Due.same(at + "onto " + t, x.place(number, t), place[t]);
            }
        }
    }

    private void loopsAndJoins(String at, int[] s, int[] s2) {
        int least = draw(1, s.length);
        int[] loop = loop(s, least);
        for (int what = 0; what < 3; what++) {
            Due.same(at + "loop " + what, x.loop(0, least, what), loop == null ? -1 : loop[what]);
        }
        int number = x.count(0);
        int joined = x.join(0, 1);
        if (s.length < over || s2.length < over) {
            Due.same(at + "join", joined, -2);
            return;
        }
        int[] both = joined(s, s2);
        Due.same(at + "join", joined, both.length > 600 ? -2 : number);
        if (both.length <= 600) {
            Due.samples(at + "join", x, number, both);
        }
    }

    private void shifted(String at, int[] s) {
        int n = draw(1, 9);
        int d = draw(1, 9);
        int many = s.length * d / n;
        if (many < wide || many > 600) {
            Due.thrown(at + "shift", Due.UNFIT, () -> x.shift(0, n, d));
            return;
        }
        int[] moved = new int[many];
        for (int t = 0; t < many; t++) {
            int p = t * n / d;
            int here = p < s.length ? s[p] : 0;
            int next = p + 1 < s.length ? s[p + 1] : 0;
            moved[t] = (here * (d - t * n % d) + next * (t * n % d)) / d;
        }
        int[] place = places(new int[][] {{many, s.length}});
        List<int[]> seams = new ArrayList<>();
        int[] out = drawn(moved, place, wide, over, seek, seams);
        Due.same(at + "shift", x.shift(0, n, d), seams.size());
        Due.result(at + "shift", x, out);
        for (int what = 0; what < 4; what++) {
            Due.same(at + "shift harm " + what, x.harm(what), harm(what, moved, place, out, seams));
        }
    }

    // ---- plans and lives ----

    private void plans(int seed) {
        state = 1000 + seed;
        x = new DrawnSounds();
        int many = draw(1, 4);
        int[][] parts = new int[many][];
        for (int k = 0; k < many; k++) {
            int least = draw(0, 12);
            parts[k] = new int[] {draw(1, 20), draw(0, 3), least, least + draw(0, 12)};
            x.part(parts[k][0], parts[k][1], parts[k][2], parts[k][3]);
        }
        for (int total = 0; total <= 100; total++) {
            int due = leastWeights(parts, 0, total);
            Due.same("plan " + seed + " for " + total, x.planned(total, -1), due);
            int sum = 0;
            int weights = 0;
            for (int k = 0; k < many && due != -5000; k++) {
                int length = x.planned(total, k);
                Due.same("plan fits", length >= parts[k][2] && length <= parts[k][3] ? 1 : 0, 1);
                sum += length;
                weights += parts[k][1] * Math.abs(length - parts[k][0]);
            }
            Due.same("plan together", sum, due == -5000 ? 0 : total);
            Due.same("plan weights", weights, due == -5000 ? 0 : due);
        }
    }

    private static int leastWeights(int[][] parts, int k, int total) {
        if (k == parts.length) {
            return total == 0 ? 0 : -5000;
        }
        int best = -5000;
        for (int length = parts[k][2]; length <= parts[k][3] && length <= total; length++) {
            int rest = leastWeights(parts, k + 1, total - length);
            int all = rest + parts[k][1] * Math.abs(length - parts[k][0]);
            best = rest != -5000 && (best == -5000 || all < best) ? all : best;
        }
        return best;
    }

    private void lives(int seed) {
        state = 2000 + seed;
        x = new DrawnSounds();
        for (int turn = 0; turn < 12; turn++) {
            int in = draw(0, 12);
            int a = draw(0, 12);
            int b = draw(a, Math.min(99, a + 3));
            int holds = draw(1, draw(0, 1) == 0 ? 40 : 999);
            int ticks = draw(1, draw(0, 1) == 0 ? 20 : 150);
            int one = -1;
            int all = -1;
            for (int lag = 99; lag >= 0; lag--) {
                one = fails(in, a, holds, lag, ticks) < 0 ? lag : one;
                boolean right = true;
                for (int out = a; out <= b; out++) {
                    right &= fails(in, out, holds, lag, ticks) < 0;
                }
                all = right ? lag : all;
            }
            int lag = draw(0, 30);
            Due.same("live " + in + " " + a, x.live(in, a, holds, lag, ticks), fails(in, a, holds, lag, ticks));
            Due.same("lag " + in + " " + a, x.lag(in, a, holds, ticks), one);
            Due.same("lags " + in + " " + a + " " + b, x.lags(in, a, b, holds, ticks), all);
        }
    }

    private static int fails(int in, int out, int holds, int lag, int ticks) {
        int held = 0;
        for (int t = 0; t < ticks; t++) {
            held += in;
            if (held > holds || t >= lag && held < out) {
                return t;
            }
            held -= t >= lag ? out : 0;
        }
        return -1;
    }
}
