import java.util.Arrays;
import java.util.NoSuchElementException;

/**
 * Sounds as rows of whole numbers, drawn out and shortened by maps of time.
 * What each call does is told by ../shared/DOC.md, by numbered promises.
 */
public final class DrawnSounds {
    public static final int NONE = -1, VOID = -5000;

    private static final int FULL = -1, UNFIT = -2;
    private static final int MOST_SAMPLES = 600, MOST_LENGTH = 1200, LOUDEST = 2047;
    private static final int MOST_SOUNDS = 5, MOST_MAPS = 5, MOST_MARKS = 12;
    private static final int MOST_WAYS = 4, MOST_PARTS = 10, MOST_HUMS = 6, MOST_IMAGES = 3;
    private static final int LEAST_PITCH = 4, MOST_PITCH = 60;
    private static final int MOST_COUNTED = 1_000_000_000;
    private static final int MOST_LAG_SOUGHT = 99;

    private final Book book;
    private final Image[] images;
    private int imageCount;
    private final Tape tape;
    private final Drawing drawing;
    private final Drawing trial;
    private final Drawing trialBack;
    private final Row moved;
    private final TimeMap oneMark;
    private final Blows soundBlows;
    private final Blows resultBlows;
    private final Crossings crossings;
    private final Tones tones;
    private final int[] looped;

    /** All rows are made here and used again, so that calls make next to nothing. */
    public DrawnSounds() {
        book = new Book();
        images = new Image[MOST_IMAGES];
        for (int i = 0; i < MOST_IMAGES; i++) {
            images[i] = new Image();
        }
        tape = new Tape();
        drawing = new Drawing();
        trial = new Drawing();
        trialBack = new Drawing();
        moved = new Row(MOST_SAMPLES);
        oneMark = new TimeMap();
        soundBlows = new Blows();
        resultBlows = new Blows();
        crossings = new Crossings();
        tones = new Tones();
        looped = new int[3];
    }

    // ---- texts: sounds and maps ----

    public int feed(int a, int b, int c, int d, int e) {
        if (tape.many + 20 > Tape.MOST_BYTES) {
            return NONE;
        }
        tape.addNumber(a);
        tape.addNumber(b);
        tape.addNumber(c);
        tape.addNumber(d);
        tape.addNumber(e);
        return tape.many;
    }

    public int sound(int n) throws IllegalArgumentException {
        need(n >= 0 && n <= tape.many);
        tape.takeText(n);
        Row row = book.freeSound();
        if (row == null) {
            return FULL;
        }
        tape.readSound(row);
        return tape.fault == 0 ? book.takeSound() : tape.fault - 10;
    }

    public int map(int n) throws IllegalArgumentException {
        need(n >= 0 && n <= tape.many);
        tape.takeText(n);
        TimeMap free = book.freeMap();
        if (free == null) {
            return FULL;
        }
        tape.readMap(free);
        return tape.fault == 0 ? book.takeMap() : tape.fault - 10;
    }

    public int fault() {
        return tape.fault == 0 ? NONE : tape.faultAt;
    }

    public int size(int sound) throws NoSuchElementException {
        return soundOf(sound).many;
    }

    public int sample(int sound, int k) throws NoSuchElementException {
        return soundOf(sound).toldAt(k);
    }

    public int told(int map, int what) throws IndexOutOfBoundsException, IllegalArgumentException {
        TimeMap of = mapOf(map);
        need(within(what, 0, 2));
        return what == 0 ? of.many : what == 1 ? of.lastTo() : of.lastFrom();
    }

    public int place(int map, int t) throws IndexOutOfBoundsException {
        return mapOf(map).placeOf(t);
    }

    public int where(int map, int f) throws IndexOutOfBoundsException {
        return mapOf(map).whereOf(f);
    }

    // ---- drawing ----

    public int pieces(int wide, int over, int seek) throws IllegalArgumentException {
        need(Pieces.allowed(wide, over, seek));
        int old = book.pieces.wide;
        book.pieces.set(wide, over, seek);
        return old;
    }

    public int draw(int sound, int map)
            throws NoSuchElementException, IndexOutOfBoundsException, IllegalStateException {
        Row row = soundOf(sound);
        TimeMap by = mapOf(map);
        needLong(row, by, book.pieces);
        drawing.drawOut(row, by, book.pieces);
        return drawing.seams;
    }

    public int sharp(int sound, int map)
            throws NoSuchElementException, IndexOutOfBoundsException, IllegalStateException {
        Row row = soundOf(sound);
        TimeMap by = mapOf(map);
        needLong(row, by, book.pieces);
        drawing.drawOut(row, by, book.pieces);
        soundBlows.find(row, book);
        return drawing.moveBlows(soundBlows, book.width);
    }

    public int length() {
        return drawing.out.many;
    }

    public int result(int k) {
        return drawing.out.toldAt(k);
    }

    public int seam(int k, int what) throws IllegalArgumentException {
        need(within(what, 0, 2));
        return drawing.seamTold(k, what);
    }

    public int keep() {
        Row free = book.freeSound();
        if (free == null) {
            return FULL;
        }
        if (!within(drawing.out.many, 1, MOST_SAMPLES)) {
            return UNFIT;
        }
        free.copyFrom(drawing.out);
        return book.takeSound();
    }

    // ---- blows, harm and ways ----

    public int blowing(int floor, int times, int width) throws IllegalArgumentException {
        need(within(floor, 1, LOUDEST) && within(times, 1, 20) && within(width, 1, 40));
        int old = book.floor;
        book.floor = floor;
        book.times = times;
        book.width = width;
        return old;
    }

    public int blow(int sound, int k) throws NoSuchElementException {
        soundBlows.find(soundOf(sound), book);
        return soundBlows.at(k);
    }

    public int blows() {
        resultBlows.find(drawing.out, book);
        return resultBlows.many;
    }

    public int harm(int what) throws IllegalArgumentException {
        need(within(what, 0, 4));
        if (!drawing.drawn) {
            return NONE;
        }
        return what == 4 ? countedOf(drawing) : harmOf(drawing, what);
    }

    public int weigh(int harm, int v) throws IllegalArgumentException {
        need(within(harm, 0, 3) && within(v, 0, 999));
        int old = book.counts[harm];
        book.counts[harm] = v;
        return old;
    }

    public int way(int wide, int over, int seek) throws IllegalArgumentException {
        need(Pieces.allowed(wide, over, seek));
        if (book.wayCount >= MOST_WAYS) {
            return FULL;
        }
        book.ways[book.wayCount].set(wide, over, seek);
        book.wayCount++;
        return book.wayCount - 1;
    }

    public int best(int sound, int map)
            throws NoSuchElementException, IndexOutOfBoundsException, IllegalStateException {
        Row row = soundOf(sound);
        TimeMap by = mapOf(map);
        needLongForWays(row, by);
        int chosen = NONE;
        int least = 0;
        for (int i = 0; i < book.wayCount && i < MOST_WAYS; i++) {
            trial.drawOut(row, by, book.ways[i]);
            int counted = countedOf(trial);
            if (chosen == NONE || counted < least) {
                chosen = i;
                least = counted;
            }
        }
        return chosen;
    }

    public int bestOf(int sound, int map, int part) throws NoSuchElementException,
            IndexOutOfBoundsException, IllegalArgumentException, IllegalStateException {
        Row row = soundOf(sound);
        TimeMap by = mapOf(map);
        need(within(part, 0, by.many - 1));
        needLongForWays(row, by);
        int chosen = NONE;
        int least = 0;
        for (int i = 0; i < book.wayCount && i < MOST_WAYS; i++) {
            trial.drawOut(row, by, book.ways[i]);
            int unlike = trial.unlikeTogether(by.to(part - 1), by.to(part));
            if (chosen == NONE || unlike < least) {
                chosen = i;
                least = unlike;
            }
        }
        return chosen;
    }

    // ---- parts and plans ----

    public int part(int samples, int weight, int least, int most) throws IllegalArgumentException {
        need(within(samples, 1, MOST_SAMPLES) && within(weight, 0, Plan.MOST_WEIGHT));
        need(within(least, 0, MOST_LENGTH) && within(most, least, MOST_LENGTH));
        if (book.plan.many >= MOST_PARTS) {
            return FULL;
        }
        book.plan.add(samples, weight, least, most);
        return book.plan.many;
    }

    public int planned(int total, int part) throws IllegalArgumentException {
        need(within(total, 0, Plan.MOST_TOTAL));
        Plan plan = book.plan;
        if (!within(part, NONE, plan.many - 1) || !plan.reach(total)) {
            return VOID;
        }
        return part == NONE ? plan.weightTogether() : plan.lengthOf(part);
    }

    public int planMap(int total) throws IllegalArgumentException {
        need(within(total, 0, Plan.MOST_TOTAL));
        TimeMap free = book.freeMap();
        if (free == null) {
            return FULL;
        }
        if (!book.plan.reach(total) || !book.plan.intoMap(free)) {
            return UNFIT;
        }
        return book.takeMap();
    }

    // ---- pitch ----

    public int pitch(int sound, int from, int many)
            throws NoSuchElementException, IllegalArgumentException {
        Row row = soundOf(sound);
        need(row.holds(from, many));
        return tones.pitchOf(row, from, many);
    }

    public long turned(int sound, int p, int from, int many, int what)
            throws NoSuchElementException, IllegalArgumentException {
        Row row = soundOf(sound);
        need(row.holds(from, many) && isPitch(p) && within(what, 0, 3));
        tones.turn(row, p, from, many);
        switch (what) {
            case 0:
                return tones.in;
            case 1:
                return tones.side;
            case 2:
                return tones.strength();
            default:
                return tones.eighth();
        }
    }

    public int sing(int sound, int map, int p, int w) throws NoSuchElementException,
            IndexOutOfBoundsException, IllegalArgumentException, IllegalStateException {
        Row row = soundOf(sound);
        TimeMap by = mapOf(map);
        need(isPitch(p) && within(w, 8, 60));
        if (row.many < by.lastFrom()) {
            throw new IllegalStateException();
        }
        drawing.singOut(row, by, p, w);
        return drawing.out.many;
    }

    public int jump() {
        return drawing.out.widestStep();
    }

    // ---- wrong speeds ----

    public int crossing(int sound, int k) throws NoSuchElementException {
        crossings.find(soundOf(sound));
        return crossings.at(k);
    }

    public int period(int sound) throws NoSuchElementException {
        crossings.find(soundOf(sound));
        return crossings.hundredths();
    }

    public int hum(int period) throws IllegalArgumentException {
        need(isHum(period));
        if (book.humCount >= MOST_HUMS) {
            return FULL;
        }
        book.hums[book.humCount] = period;
        book.humCount++;
        return book.humCount;
    }

    public int meant(int sound, int what) throws NoSuchElementException, IllegalArgumentException {
        Row row = soundOf(sound);
        need(within(what, 0, 1));
        crossings.find(row);
        int own = crossings.hundredths();
        if (own == NONE) {
            return NONE;
        }
        int nearest = book.nearestHum(own, NONE);
        if (what == 0 || nearest == NONE) {
            return nearest;
        }
        int next = book.nearestHum(own, nearest);
        return next == NONE ? NONE : book.humFar(next, own) - book.humFar(nearest, own);
    }

    public int undo(int sound, int period) throws NoSuchElementException, IllegalArgumentException {
        Row row = soundOf(sound);
        need(isHum(period));
        TimeMap free = book.freeMap();
        if (free == null) {
            return FULL;
        }
        crossings.find(row);
        int own = crossings.hundredths();
        if (own == NONE) {
            return UNFIT;
        }
        free.clear();
        free.add(row.many, bounded(cut(row.many * period, own), 1, MOST_LENGTH));
        return book.takeMap();
    }

    public int wobble(int sound, int what) throws NoSuchElementException, IllegalArgumentException {
        Row row = soundOf(sound);
        need(within(what, 0, 1));
        crossings.find(row);
        if (crossings.intervals() < 2) {
            return NONE;
        }
        return what == 0 ? crossings.turns() : crossings.swing();
    }

    // ---- beats, loops, joins ----

    public int beat(int sound, int what) throws NoSuchElementException, IllegalArgumentException {
        Row row = soundOf(sound);
        need(within(what, 0, 2));
        soundBlows.find(row, book);
        if (soundBlows.many < 2) {
            return NONE;
        }
        soundBlows.findGrid();
        return what == 0 ? soundBlows.step : what == 1 ? soundBlows.start : soundBlows.off;
    }

    public int onto(int sound, int q) throws NoSuchElementException, IllegalArgumentException {
        Row row = soundOf(sound);
        need(within(q, 1, 200));
        TimeMap free = book.freeMap();
        if (free == null) {
            return FULL;
        }
        soundBlows.find(row, book);
        if (soundBlows.many < 2) {
            return UNFIT;
        }
        soundBlows.findGrid();
        soundBlows.intoMap(q, free);
        free.addRest(row.many);
        return free.lastTo() > MOST_LENGTH ? UNFIT : book.takeMap();
    }

    public int loop(int sound, int least, int what)
            throws NoSuchElementException, IllegalArgumentException {
        Row row = soundOf(sound);
        need(within(least, 1, MOST_SAMPLES) && within(what, 0, 2));
        return row.findLoop(least, book.pieces.over, looped) ? looped[what] : NONE;
    }

    public int join(int sound, int other) throws NoSuchElementException {
        Row first = soundOf(sound);
        Row second = soundOf(other);
        Row free = book.freeSound();
        if (free == null) {
            return FULL;
        }
        int over = book.pieces.over;
        if (first.many < over || second.many < over) {
            return UNFIT;
        }
        int begin = first.bestJoin(second, over, book.pieces.seek);
        if (begin + second.many > MOST_SAMPLES) {
            return UNFIT;
        }
        free.joinOf(first, second, begin, over);
        return book.takeSound();
    }

    public int shift(int sound, int n, int d)
            throws NoSuchElementException, IllegalArgumentException, IllegalStateException {
        Row row = soundOf(sound);
        need(within(n, 1, 9) && within(d, 1, 9));
        int many = bounded(cut(row.many * d, n), 1, MOST_LENGTH);
        if (many < book.pieces.wide || many > MOST_SAMPLES) {
            throw new IllegalStateException();
        }
        moved.resampleOf(row, many, n, d);
        oneMark.clear();
        oneMark.add(many, row.many);
        drawing.drawOut(moved, oneMark, book.pieces);
        return drawing.seams;
    }

    // ---- colours, peaks, steadiness, films ----

    public int colour(int sound, int w) throws NoSuchElementException, IllegalArgumentException {
        Row row = soundOf(sound);
        need(within(w, 4, 60));
        int longer = Math.max(row.many, drawing.out.many);
        int all = 0;
        for (int k = 0; k < longer; k += w) {
            all += far(row.loudest(k, w), drawing.out.loudest(k, w));
        }
        return all;
    }

    public int peak(int sound, int from, int many, int k)
            throws NoSuchElementException, IllegalArgumentException {
        Row row = soundOf(sound);
        need(row.holds(from, many));
        tones.turnAll(row, from, many);
        return tones.rankedPeak(k);
    }

    public int lock(int sound, int p, int from, int many)
            throws NoSuchElementException, IllegalArgumentException {
        Row row = soundOf(sound);
        need(row.holds(from, many) && isPitch(p));
        tones.turnAll(row, from, many);
        return tones.nearestPeak(p);
    }

    public int steady(int sound) throws NoSuchElementException {
        Row row = soundOf(sound);
        TimeMap free = book.freeMap();
        if (free == null) {
            return FULL;
        }
        crossings.find(row);
        if (crossings.many < 2) {
            return UNFIT;
        }
        crossings.intoMap(free);
        free.addRest(row.many);
        return book.takeMap();
    }

    public int film(int sound, int frames, int each)
            throws NoSuchElementException, IllegalArgumentException {
        Row row = soundOf(sound);
        need(within(frames, 1, 1200) && within(each, 1, 99));
        TimeMap free = book.freeMap();
        if (free == null) {
            return FULL;
        }
        if (frames * each > MOST_LENGTH) {
            return UNFIT;
        }
        free.clear();
        free.add(row.many, frames * each);
        return book.takeMap();
    }

    // ---- live ----

    public int live(int in, int out, int holds, int lag, int ticks) throws IllegalArgumentException {
        need(isStream(in) && isStream(out) && isBuffer(holds, ticks) && within(lag, 0, 999));
        int held = 0;
        for (int t = 0; t < ticks; t++) {
            held += in;
            int goes = t >= lag ? out : 0;
            if (held > holds || held < goes) {
                return t;
            }
            held -= goes;
        }
        return NONE;
    }

    public int lag(int in, int out, int holds, int ticks) throws IllegalArgumentException {
        need(isStream(in) && isStream(out) && isBuffer(holds, ticks));
        return leastLag(in, out, out, holds, ticks);
    }

    public int lags(int in, int a, int b, int holds, int ticks) throws IllegalArgumentException {
        need(isStream(in) && isStream(a) && isStream(b) && b >= a && isBuffer(holds, ticks));
        return leastLag(in, a, b, holds, ticks);
    }

    // ---- there and back, images ----

    public int lost(int sound, int map, int back)
            throws NoSuchElementException, IndexOutOfBoundsException, IllegalStateException {
        Row row = soundOf(sound);
        TimeMap there = mapOf(map);
        TimeMap again = mapOf(back);
        needLong(row, there, book.pieces);
        trial.drawOut(row, there, book.pieces);
        needLong(trial.out, again, book.pieces);
        trialBack.drawOut(trial.out, again, book.pieces);
        return row.farFrom(trialBack.out);
    }

    public int image() {
        if (imageCount < 0 || imageCount >= MOST_IMAGES) {
            return FULL;
        }
        images[imageCount].take(book);
        imageCount++;
        return imageCount;
    }

    public int restore() {
        if (imageCount <= 0 || imageCount > MOST_IMAGES) {
            return NONE;
        }
        imageCount--;
        images[imageCount].giveBack(book);
        drawing.clear();
        return imageCount;
    }

    public int count(int what) {
        switch (what) {
            case 0:
                return book.soundCount;
            case 1:
                return book.mapCount;
            case 2:
                return drawing.seams;
            case 3:
                return book.wayCount;
            case 4:
                return book.plan.many;
            case 5:
                return book.humCount;
            case 6:
                return imageCount;
            case 7:
                return tape.many;
            default:
                return NONE;
        }
    }

    // ---- what several calls need ----

    private static void need(boolean fits) throws IllegalArgumentException {
        if (!fits) {
            throw new IllegalArgumentException();
        }
    }

    private Row soundOf(int number) throws NoSuchElementException {
        if (number < 0 || number >= book.soundCount || number >= MOST_SOUNDS) {
            throw new NoSuchElementException();
        }
        return book.sounds[number];
    }

    private TimeMap mapOf(int number) throws IndexOutOfBoundsException {
        if (number < 0 || number >= book.mapCount || number >= MOST_MAPS) {
            throw new IndexOutOfBoundsException();
        }
        return book.maps[number];
    }

    private static void needLong(Row row, TimeMap by, Pieces pieces) throws IllegalStateException {
        if (row.many < pieces.wide || row.many < by.lastFrom()) {
            throw new IllegalStateException();
        }
    }

    private void needLongForWays(Row row, TimeMap by) throws IllegalStateException {
        for (int i = 0; i < book.wayCount && i < MOST_WAYS; i++) {
            needLong(row, by, book.ways[i]);
        }
    }

    private int harmOf(Drawing of, int what) {
        switch (what) {
            case 0:
                return of.unlikeTogether(0, MOST_LENGTH);
            case 1:
                soundBlows.find(of.source, book);
                return of.smearTogether(soundBlows, book.width);
            case 2:
                soundBlows.find(of.source, book);
                resultBlows.find(of.out, book);
                return Math.max(0, resultBlows.many - soundBlows.many);
            default:
                return of.ringTogether(book.width);
        }
    }

    private int countedOf(Drawing of) {
        long all = 0;
        for (int what = 0; what < book.counts.length; what++) {
            all += (long) book.counts[what] * harmOf(of, what);
        }
        return (int) Math.min(all, MOST_COUNTED);
    }

    private static int leastLag(int in, int a, int b, int holds, int ticks) {
        for (int lag = 0; lag <= MOST_LAG_SOUGHT; lag++) {
            boolean fails = false;
            for (int out = a; out <= b && !fails; out++) {
                fails = liveFails(in, out, holds, lag, ticks);
            }
            if (!fails) {
                return lag;
            }
        }
        return NONE;
    }

    /**
     * Whether a buffer fails at all. What it holds behind the coming in rises evenly up to
     * the lag's tick and moves evenly from there on, so the ends of these ways decide.
     */
    private static boolean liveFails(int in, int out, int holds, int lag, int ticks) {
        if (lag >= ticks) {
            return in * ticks > holds;
        }
        int atLag = in * (lag + 1);
        int atEnd = in * ticks - out * (ticks - 1 - lag);
        return atLag > holds || atLag < out || atEnd > holds || atEnd < out;
    }

    private static boolean isStream(int n) {
        return within(n, 0, 99);
    }

    private static boolean isBuffer(int holds, int ticks) {
        return within(holds, 1, 999) && within(ticks, 1, 999);
    }

    private static boolean isPitch(int p) {
        return within(p, LEAST_PITCH, MOST_PITCH);
    }

    private static boolean isHum(int period) {
        return within(period, 400, 6000);
    }

    private static boolean within(int n, int least, int most) {
        return n >= least && n <= most;
    }

    private static int bounded(int n, int least, int most) {
        return Math.max(least, Math.min(n, most));
    }

    private static int far(int a, int b) {
        return Math.abs(a - b);
    }

    /** a by b, cut toward 0; no caller has a b of 0, which is tested all the same. */
    private static int cut(int a, int b) {
        return b == 0 ? 0 : a / b;
    }

    /** What a leaves by b, both 0 or more. */
    private static int left(int a, int b) {
        return b == 0 ? 0 : a % b;
    }

    /** The k-th sample of a wave. */
    private static int wave(int p, int a, int k) {
        int t = 4 * left(k, p);
        if (t < p) {
            return cut(a * t, p);
        }
        if (t < 3 * p) {
            return cut(a * (2 * p - t), p);
        }
        return cut(a * (t - 4 * p), p);
    }

    /** A row of samples; outside of it all is 0. */
    static final class Row {
        final int[] values;
        int many;

        Row(int room) {
            values = new int[Math.max(room, 0)];
        }

        void start(int length) {
            many = bounded(length, 0, values.length);
            Arrays.fill(values, 0, many, 0);
        }

        void add(int value) {
            if (many >= 0 && many < values.length) {
                values[many] = value;
                many++;
            }
        }

        int at(int k) {
            return k >= 0 && k < many && k < values.length ? values[k] : 0;
        }

        int loud(int k) {
            return Math.abs(at(k));
        }

        int toldAt(int k) {
            return k >= 0 && k < many ? at(k) : VOID;
        }

        void put(int k, int value) {
            if (k >= 0 && k < many && k < values.length) {
                values[k] = value;
            }
        }

        void copyFrom(Row other) {
            many = bounded(other.many, 0, Math.min(values.length, other.values.length));
            System.arraycopy(other.values, 0, values, 0, many);
        }

        boolean holds(int from, int howMany) {
            return from >= 0 && howMany >= 0 && from <= many && howMany <= many - from;
        }

        /** The greatest sample without sign among so many from one on; 0 of none. */
        int loudest(int from, int howMany) {
            int most = 0;
            for (int k = 0; k < howMany; k++) {
                most = Math.max(most, Math.abs(at(from + k)));
            }
            return most;
        }

        boolean silent(int from, int howMany) {
            for (int k = 0; k < howMany; k++) {
                if (at(from + k) != 0) {
                    return false;
                }
            }
            return true;
        }

        int widestStep() {
            int widest = 0;
            for (int k = 1; k < many; k++) {
                widest = Math.max(widest, far(at(k), at(k - 1)));
            }
            return widest;
        }

        void addStill(int howMany) {
            for (int k = 0; k < howMany; k++) {
                add(0);
            }
        }

        void addWave(int p, int a, int howMany) {
            for (int k = 0; k < howMany; k++) {
                add(wave(p, a, k));
            }
        }

        void addBlow(int a, int howMany) {
            for (int k = 0; k < howMany; k++) {
                int value = a >> Math.min(k / 2, 30);
                add((k & 1) == 1 ? -value : value);
            }
        }

        void addHiss(int a, int howMany, int seed) {
            int state = seed;
            for (int k = 0; k < howMany; k++) {
                state = state * 1_103_515_245 + 12_345;
                add(left((state >>> 16) & 0x7fff, 2 * a + 1) - a);
            }
        }

        void layHum(int p, int a) {
            for (int k = 0; k < many; k++) {
                put(k, bounded(at(k) + wave(p, a, k), -LOUDEST, LOUDEST));
            }
        }

        /** How far so many samples from one on are, together, from those of another row. */
        int unlike(int from, Row other, int otherFrom, int howMany) {
            int all = 0;
            for (int k = 0; k < howMany; k++) {
                all += far(at(from + k), other.at(otherFrom + k));
            }
            return all;
        }

        /** The other row comes in over so many samples from one on, from its own place on. */
        void fadeIn(int from, Row other, int otherFrom, int over) {
            for (int k = 0; k < over; k++) {
                int mixed = at(from + k) * (over - k) + other.at(otherFrom + k) * k;
                put(from + k, cut(mixed, over));
            }
        }

        void lay(int from, Row other, int otherFrom, int howMany) {
            for (int k = 0; k < howMany; k++) {
                put(from + k, other.at(otherFrom + k));
            }
        }

        int farFrom(Row other) {
            int both = Math.min(many, other.many);
            return unlike(0, other, 0, both) + LOUDEST * far(many, other.many);
        }

        /**
         * Puts from, to and sum of the loop into answer. The longest come first and of these
         * the first, so only what is less replaces; a sum moves on by what comes and goes.
         */
        boolean findLoop(int least, int over, int[] answer) {
            boolean found = false;
            for (int way = many - over; way >= least && answer.length >= 3; way--) {
                int sum = unlike(0, this, way, over);
                for (int from = 0; from + way + over <= many; from++) {
                    if (!found || sum < answer[2]) {
                        found = true;
                        answer[0] = from;
                        answer[1] = from + way;
                        answer[2] = sum;
                    }
                    int behind = from + over;
                    sum += far(at(behind), at(behind + way)) - far(at(from), at(from + way));
                }
            }
            return found;
        }

        /** Where another row begins when it is joined to this one; both have over samples. */
        int bestJoin(Row second, int over, int seek) {
            int last = many - over;
            int chosen = last;
            int least = unlike(last, second, 0, over);
            for (int o = 1; o <= seek && o <= last; o++) {
                int sum = unlike(last - o, second, 0, over);
                if (sum < least) {
                    least = sum;
                    chosen = last - o;
                }
            }
            return chosen;
        }

        void joinOf(Row first, Row second, int begin, int over) {
            start(begin + second.many);
            lay(0, first, 0, begin + over);
            fadeIn(begin, second, 0, over);
            lay(begin + over, second, over, second.many - over);
        }

        void resampleOf(Row row, int howMany, int n, int d) {
            start(howMany);
            for (int t = 0; t < many; t++) {
                int p = cut(t * n, d);
                int r = left(t * n, d);
                put(t, cut(row.at(p) * (d - r) + row.at(p + 1) * r, d));
            }
        }
    }

    /** Marks of time: which place of a sound stands at which time. */
    static final class TimeMap {
        final int[] froms = new int[MOST_MARKS];
        final int[] tos = new int[MOST_MARKS];
        int many;

        void clear() {
            many = 0;
        }

        void add(int from, int to) {
            if (many >= 0 && many < MOST_MARKS) {
                froms[many] = from;
                tos[many] = to;
                many++;
            }
        }

        /** A mark at the sound's end, as far behind the last mark as in the sound. */
        void addRest(int samples) {
            add(samples, lastTo() + samples - lastFrom());
        }

        void copyFrom(TimeMap other) {
            many = bounded(other.many, 0, MOST_MARKS);
            System.arraycopy(other.froms, 0, froms, 0, many);
            System.arraycopy(other.tos, 0, tos, 0, many);
        }

        /** 0 of the mark ahead of all. */
        int from(int k) {
            return k >= 0 && k < many && k < froms.length ? froms[k] : 0;
        }

        /** 0 of the mark ahead of all. */
        int to(int k) {
            return k >= 0 && k < many && k < tos.length ? tos[k] : 0;
        }

        int lastFrom() {
            return from(many - 1);
        }

        int lastTo() {
            return to(many - 1);
        }

        void stretchLast(int from) {
            if (many > 0 && many <= froms.length) {
                froms[many - 1] = from;
            }
        }

        int placeOf(int t) {
            if (t < 0) {
                return NONE;
            }
            for (int k = 0; k < many; k++) {
                if (t < to(k)) {
                    int f = from(k - 1);
                    int begin = to(k - 1);
                    return f + cut((from(k) - f) * (t - begin), to(k) - begin);
                }
            }
            return NONE;
        }

        /** Places never run back, so the least time is found by halving. */
        int whereOf(int f) {
            int low = 0;
            int high = lastTo();
            for (int turn = 0; low < high && turn < 32; turn++) {
                int middle = (low + high) / 2;
                if (placeOf(middle) >= f) {
                    high = middle;
                } else {
                    low = middle + 1;
                }
            }
            return low < lastTo() ? low : NONE;
        }
    }

    /** How wide the pieces are, how far they lie over one another, how far they are sought. */
    static final class Pieces {
        int wide = 16;
        int over = 4;
        int seek = 3;

        static boolean allowed(int wide, int over, int seek) {
            return within(wide, 4, 64) && within(over, 1, wide / 2) && within(seek, 0, 20);
        }

        void set(int newWide, int newOver, int newSeek) {
            wide = newWide;
            over = newOver;
            seek = newSeek;
        }

        void copyFrom(Pieces other) {
            set(other.wide, other.over, other.seek);
        }
    }

    /** A sound drawn by a map: what came of it, and its seams. */
    static final class Drawing {
        static final int MOST_SEAMS = MOST_LENGTH / 2;

        final Row source = new Row(MOST_LENGTH);
        final Row out = new Row(MOST_LENGTH);
        final TimeMap map = new TimeMap();
        final int[] offsets = new int[MOST_SEAMS];
        final int[] unlikes = new int[MOST_SEAMS];
        int step;
        int seams;
        boolean drawn;

        void clear() {
            out.start(0);
            seams = 0;
            drawn = false;
        }

        /** The sound and the map are copied, as harm asks for them later. */
        void drawOut(Row sound, TimeMap by, Pieces pieces) {
            source.copyFrom(sound);
            map.copyFrom(by);
            out.start(map.lastTo());
            out.lay(0, source, 0, pieces.wide);
            drawn = true;
            seams = 0;
            step = Math.max(1, pieces.wide - pieces.over);
            for (int r = step; r < out.many && seams < MOST_SEAMS; r += step) {
                layPiece(r, pieces);
            }
        }

        private void layPiece(int r, Pieces pieces) {
            int faded = Math.min(pieces.over, out.many - r);
            int place = map.placeOf(r);
            int o = bestOffset(r, place, faded, pieces);
            int begin = place + o;
            if (seams >= 0 && seams < MOST_SEAMS) {
                offsets[seams] = o;
                unlikes[seams] = source.unlike(begin, out, r, faded);
                seams++;
            }
            out.fadeIn(r, source, begin, pieces.over);
            out.lay(r + pieces.over, source, begin + pieces.over, step);
        }

        /** Tries 0, -1, 1, -2, 2 .., so that of alike ones the due one comes first. */
        private int bestOffset(int r, int place, int faded, Pieces pieces) {
            int last = source.many - pieces.wide;
            int chosen = bounded(place, 0, last) - place;
            int least = -1;
            for (int turn = 0; turn <= 2 * pieces.seek; turn++) {
                int o = (turn & 1) == 1 ? -(turn + 1) / 2 : turn / 2;
                if (within(place + o, 0, last)) {
                    int sum = source.unlike(place + o, out, r, faded);
                    if (least < 0 || sum < least) {
                        least = sum;
                        chosen = o;
                    }
                }
            }
            return chosen;
        }

        int moveBlows(Blows blows, int width) {
            int done = 0;
            for (int i = 0; i < blows.many; i++) {
                int blow = blows.at(i);
                int to = map.whereOf(blow);
                if (to != NONE) {
                    out.lay(to, source, blow, Math.min(width, source.many - blow));
                    done++;
                }
            }
            return done;
        }

        void singOut(Row sound, TimeMap by, int p, int w) {
            clear();
            out.start(by.lastTo());
            for (int t = 0; t < out.many; t++) {
                int begin = cut(by.placeOf(t), w) * w;
                out.put(t, wave(p, sound.loudest(begin, w), t));
            }
        }

        int seamTold(int k, int what) {
            if (k < 0 || k >= seams || k >= MOST_SEAMS) {
                return VOID;
            }
            return what == 0 ? (k + 1) * step : what == 1 ? offsets[k] : unlikes[k];
        }

        /** Unlike of all seams from one time on, ahead of another. */
        int unlikeTogether(int from, int to) {
            int all = 0;
            for (int k = 0; k < seams && k < MOST_SEAMS; k++) {
                if (within((k + 1) * step, from, to - 1)) {
                    all += unlikes[k];
                }
            }
            return all;
        }

        int smearTogether(Blows blows, int width) {
            int all = 0;
            for (int i = 0; i < blows.many; i++) {
                int blow = blows.at(i);
                int to = map.whereOf(blow);
                if (to != NONE) {
                    int loud = source.loud(blow);
                    int came = halfLoud(out, to, 2 * width, loud);
                    int was = halfLoud(source, blow, 2 * width, loud);
                    all += far(came, was);
                }
            }
            return all;
        }

        private static int halfLoud(Row row, int from, int howMany, int loud) {
            int found = 0;
            for (int k = from; k < from + howMany && k < row.many; k++) {
                if (2 * row.loud(k) >= loud) {
                    found++;
                }
            }
            return found;
        }

        int ringTogether(int width) {
            int all = 0;
            for (int t = 0; t < out.many; t++) {
                if (source.silent(map.placeOf(t), width)) {
                    all += out.loud(t);
                }
            }
            return all;
        }
    }

    /** The blows of a row, in order, and the grid nearest to them. */
    static final class Blows {
        static final int LEAST_STEP = 4, MOST_STEP = 200;

        final int[] places = new int[MOST_LENGTH / 2];
        final int[] leaving = new int[MOST_STEP];
        int many;
        int step;
        int start;
        int off;

        void find(Row row, Book book) {
            many = 0;
            int free = 0;
            for (int k = 0; k < row.many; k++) {
                if (k >= free && isBlow(row, k, book) && many < places.length) {
                    places[many] = k;
                    many++;
                    free = k + book.width + 1;
                }
            }
        }

        private static boolean isBlow(Row row, int k, Book book) {
            int loud = row.loud(k);
            return loud >= book.floor
                && loud >= book.times * row.loudest(k - book.width, book.width);
        }

        int at(int k) {
            return k >= 0 && k < many && k < places.length ? places[k] : NONE;
        }

        /** From the greatest step down and the least start up, so only what is less replaces. */
        void findGrid() {
            step = 0;
            for (int p = MOST_STEP; p >= LEAST_STEP; p--) {
                tryStep(p);
            }
        }

        /**
         * When the start moves one on, a blow that leaves 1 to half of p comes nearer by one,
         * the others go farther by one, but for the middle one of an odd p, which stays: so
         * each start's sum comes from the one ahead without a look at all blows again.
         */
        private void tryStep(int p) {
            Arrays.fill(leaving, 0);
            int sum = 0;
            for (int i = 0; i < many; i++) {
                int rest = left(at(i), p);
                sum += Math.min(rest, p - rest);
                addLeaving(rest);
            }
            int half = p / 2;
            int nearer = 0;
            for (int rest = 1; rest <= half; rest++) {
                nearer += leavingAt(rest);
            }
            for (int a = 0; a < p; a++) {
                take(p, a, sum);
                int staying = (p & 1) == 1 ? leavingAt(left(a + half + 1, p)) : 0;
                sum += many - staying - 2 * nearer;
                nearer += leavingAt(left(a + 1 + half, p)) - leavingAt(left(a + 1, p));
            }
        }

        private void addLeaving(int rest) {
            if (rest >= 0 && rest < leaving.length) {
                leaving[rest]++;
            }
        }

        private int leavingAt(int rest) {
            return rest >= 0 && rest < leaving.length ? leaving[rest] : 0;
        }

        private void take(int p, int a, int sum) {
            if (step == 0 || sum * step < off * p) {
                step = p;
                start = a;
                off = sum;
            }
        }

        private int numberOf(int blow) {
            return cut(2 * (blow - start) + step, 2 * step);
        }

        /** Marks from the blows to steps of q, by the grid found. */
        void intoMap(int q, TimeMap map) {
            map.clear();
            int first = numberOf(at(0));
            for (int i = 0; i < many; i++) {
                int blow = at(i);
                int to = q * (numberOf(blow) - first + 1);
                boolean rises = blow > map.lastFrom() && to > map.lastTo();
                if (rises && map.many < MOST_MARKS - 1) {
                    map.add(blow, to);
                }
            }
        }
    }

    /** Parts that may become longer or shorter, and how long each one gets. */
    static final class Plan {
        static final int MOST_WEIGHT = 99;
        static final int MOST_TOTAL = 12_000;

        final int[] samples = new int[MOST_PARTS];
        final int[] weights = new int[MOST_PARTS];
        final int[] leasts = new int[MOST_PARTS];
        final int[] mosts = new int[MOST_PARTS];
        final int[] lengths = new int[MOST_PARTS];
        int many;

        void add(int howMany, int weight, int least, int most) {
            if (many >= 0 && many < MOST_PARTS) {
                samples[many] = howMany;
                weights[many] = weight;
                leasts[many] = least;
                mosts[many] = most;
                many++;
            }
        }

        /** Makes all lengths together the total; false if that can't be. */
        boolean reach(int total) {
            int rest = total;
            for (int i = 0; i < many && i < MOST_PARTS; i++) {
                lengths[i] = bounded(samples[i], leasts[i], mosts[i]);
                rest -= lengths[i];
            }
            for (int weight = 0; weight <= MOST_WEIGHT && rest != 0; weight++) {
                for (int i = 0; i < many && i < MOST_PARTS; i++) {
                    if (weights[i] == weight) {
                        int more = bounded(rest, leasts[i] - lengths[i], mosts[i] - lengths[i]);
                        lengths[i] += more;
                        rest -= more;
                    }
                }
            }
            return rest == 0;
        }

        int lengthOf(int part) {
            return part >= 0 && part < many && part < MOST_PARTS ? lengths[part] : VOID;
        }

        int weightTogether() {
            int all = 0;
            for (int i = 0; i < many && i < MOST_PARTS; i++) {
                all += weights[i] * far(lengths[i], samples[i]);
            }
            return all;
        }

        /** False if the lengths reached make no map. */
        boolean intoMap(TimeMap map) {
            int from = 0;
            int to = 0;
            map.clear();
            for (int i = 0; i < many && i < MOST_PARTS; i++) {
                from += samples[i];
                to += lengths[i];
                if (lengths[i] > 0) {
                    map.add(from, to);
                }
            }
            map.stretchLast(from);
            return map.many > 0 && from <= MOST_SAMPLES && to <= MOST_LENGTH;
        }
    }

    /** The bytes fed, and the reading of texts from them. */
    static final class Tape {
        static final int MOST_BYTES = 300;
        static final int CANT_STAND = 1, NONE_SUCH = 2, TOO_MANY = 3, EMPTY = 4;
        static final int MOST_CLAUSES = 16, MOST_N = 300, MOST_A = 2000, MOST_SEED = 9999;
        static final int BLANK = 32;

        final int[] bytes = new int[MOST_BYTES];
        int many;
        int fault;
        int faultAt;
        private int at;
        private int end;
        private int wordAt;
        private int numberAt;

        void addNumber(int number) {
            for (int bits = 24; bits >= 0; bits -= 8) {
                if (many >= 0 && many < MOST_BYTES) {
                    bytes[many] = (number >>> bits) & 255;
                    many++;
                }
            }
        }

        /**
         * The first bytes become the latest text, which has no fault of its own yet, be it
         * read or not; the tape is empty from now on.
         */
        void takeText(int length) {
            many = 0;
            at = 0;
            end = bounded(length, 0, MOST_BYTES);
            fault = 0;
            faultAt = 0;
        }

        void readSound(Row row) {
            row.start(0);
            for (int clauses = 0; clauses <= MOST_CLAUSES && moreComes(); clauses++) {
                readWord();
                readClause(row, clauses);
                readEnd();
            }
            if (row.many == 0) {
                fail(EMPTY, end);
            }
        }

        void readMap(TimeMap map) {
            map.clear();
            for (int marks = 0; marks <= MOST_MARKS && moreComes(); marks++) {
                readWord();
                if (!isWord("mark")) {
                    fail(CANT_STAND, wordAt);
                } else if (marks == MOST_MARKS) {
                    fail(TOO_MANY, wordAt);
                }
                int from = readNumber(map.lastFrom() + 1, MOST_SAMPLES);
                int to = readNumber(map.lastTo() + 1, MOST_LENGTH);
                readEnd();
                if (fault == 0) {
                    map.add(from, to);
                }
            }
            if (map.many == 0) {
                fail(EMPTY, end);
            }
        }

        /** The first fault stays; behind it all reading does nothing. */
        private void fail(int kind, int where) {
            if (fault == 0) {
                fault = kind;
                faultAt = where;
            }
        }

        private void readClause(Row row, int clauses) {
            boolean still = isWord("still");
            boolean tone = isWord("tone");
            boolean blow = isWord("blow");
            boolean hiss = isWord("hiss");
            boolean hum = isWord("hum");
            if (!still && !tone && !blow && !hiss && !hum) {
                fail(CANT_STAND, wordAt);
            } else if (clauses >= MOST_CLAUSES) {
                fail(TOO_MANY, wordAt);
            }
            int p = tone || hum ? readNumber(LEAST_PITCH, MOST_PITCH) : 0;
            int a = still ? 0 : readNumber(1, MOST_A);
            int n = hum ? 0 : readMany(row);
            int seed = hiss ? readNumber(0, MOST_SEED) : 0;
            if (fault != 0) {
                return;
            }
            if (hum) {
                row.layHum(p, a);
            } else if (hiss) {
                row.addHiss(a, n, seed);
            } else if (blow) {
                row.addBlow(a, n);
            } else if (tone) {
                row.addWave(p, a, n);
            } else {
                row.addStill(n);
            }
        }

        private int readMany(Row row) {
            int n = readNumber(1, MOST_N);
            if (row.many + n > MOST_SAMPLES) {
                fail(TOO_MANY, numberAt);
            }
            return n;
        }

        private int byteAt(int k) {
            return k >= 0 && k < end && k < MOST_BYTES ? bytes[k] : NONE;
        }

        private boolean isLetter(int k) {
            return within(byteAt(k), 'a', 'z');
        }

        private boolean isDigit(int k) {
            return within(byteAt(k), '0', '9');
        }

        private void skipBlanks() {
            while (at < end && byteAt(at) == BLANK) {
                at++;
            }
        }

        private boolean moreComes() {
            skipBlanks();
            return fault == 0 && at < end;
        }

        /** The word stands from wordAt to at; it may be empty. */
        private void readWord() {
            skipBlanks();
            wordAt = at;
            while (at < end && isLetter(at)) {
                at++;
            }
        }

        private boolean isWord(String word) {
            if (at - wordAt != word.length()) {
                return false;
            }
            for (int k = 0; k < word.length(); k++) {
                if (byteAt(wordAt + k) != word.charAt(k)) {
                    return false;
                }
            }
            return true;
        }

        private int readNumber(int least, int most) {
            if (fault != 0) {
                return 0;
            }
            skipBlanks();
            numberAt = at;
            int number = 0;
            while (at < end && isDigit(at)) {
                number = Math.min(100_000, number * 10 + byteAt(at) - '0');
                at++;
            }
            if (at == numberAt) {
                fail(CANT_STAND, at);
            } else if (!within(number, least, most)) {
                fail(NONE_SUCH, numberAt);
            }
            return number;
        }

        private void readEnd() {
            if (fault != 0) {
                return;
            }
            skipBlanks();
            if (byteAt(at) == ';') {
                at++;
            } else {
                fail(CANT_STAND, at);
            }
        }
    }

    /** All that an image tells of. */
    static final class Book {
        final Row[] sounds = new Row[MOST_SOUNDS];
        final TimeMap[] maps = new TimeMap[MOST_MAPS];
        final Pieces[] ways = new Pieces[MOST_WAYS];
        final int[] hums = new int[MOST_HUMS];
        final int[] counts = {1, 100, 500, 1};
        final Pieces pieces = new Pieces();
        final Plan plan = new Plan();
        int soundCount;
        int mapCount;
        int wayCount;
        int humCount;
        int floor = 200;
        int times = 3;
        int width = 8;

        Book() {
            for (int i = 0; i < MOST_SOUNDS; i++) {
                sounds[i] = new Row(MOST_SAMPLES);
            }
            for (int i = 0; i < MOST_MAPS; i++) {
                maps[i] = new TimeMap();
            }
            for (int i = 0; i < MOST_WAYS; i++) {
                ways[i] = new Pieces();
            }
        }

        /** The row that the next sound comes into; null if there are as many as may be. */
        Row freeSound() {
            return soundCount >= 0 && soundCount < MOST_SOUNDS ? sounds[soundCount] : null;
        }

        /** The map that the next one comes into; null if there are as many as may be. */
        TimeMap freeMap() {
            return mapCount >= 0 && mapCount < MOST_MAPS ? maps[mapCount] : null;
        }

        /** What stands in the free row is a sound from now on: its number. */
        int takeSound() {
            soundCount++;
            return soundCount - 1;
        }

        /** What stands in the free map is a map from now on: its number. */
        int takeMap() {
            mapCount++;
            return mapCount - 1;
        }

        /** The hum nearest to a period, but for one; the first of alike ones. */
        int nearestHum(int period, int butFor) {
            int nearest = NONE;
            for (int i = 0; i < humCount && i < MOST_HUMS; i++) {
                boolean nearer = nearest == NONE || humFar(i, period) < humFar(nearest, period);
                if (i != butFor && nearer) {
                    nearest = i;
                }
            }
            return nearest;
        }

        int humFar(int number, int period) {
            return number >= 0 && number < MOST_HUMS ? far(hums[number], period) : 0;
        }
    }

    /**
     * What a book was like. Sounds, maps, ways, parts and hums are only ever added behind
     * those of the latest image, so how many there were is enough to have them again.
     */
    static final class Image {
        private final Pieces pieces = new Pieces();
        private final int[] counts = new int[4];
        private int soundCount;
        private int mapCount;
        private int wayCount;
        private int partCount;
        private int humCount;
        private int floor;
        private int times;
        private int width;

        void take(Book book) {
            soundCount = book.soundCount;
            mapCount = book.mapCount;
            wayCount = book.wayCount;
            partCount = book.plan.many;
            humCount = book.humCount;
            floor = book.floor;
            times = book.times;
            width = book.width;
            pieces.copyFrom(book.pieces);
            copyCounts(book.counts, counts);
        }

        void giveBack(Book book) {
            book.soundCount = soundCount;
            book.mapCount = mapCount;
            book.wayCount = wayCount;
            book.plan.many = partCount;
            book.humCount = humCount;
            book.floor = floor;
            book.times = times;
            book.width = width;
            book.pieces.copyFrom(pieces);
            copyCounts(counts, book.counts);
        }

        private static void copyCounts(int[] from, int[] to) {
            for (int i = 0; i < from.length && i < to.length; i++) {
                to[i] = from[i];
            }
        }
    }

    /** Pitches and turned sums of rows of samples. */
    static final class Tones {
        final long[] strengths = new long[MOST_PITCH + 1];
        int in;
        int side;

        int pitchOf(Row row, int from, int many) {
            int chosen = NONE;
            long least = 0;
            long leastPairs = 1;
            for (int p = LEAST_PITCH; p <= MOST_PITCH && 2 * p <= many; p++) {
                long sum = row.unlike(from, row, from + p, many - p);
                long pairs = many - p;
                if (chosen == NONE || sum * leastPairs < least * pairs) {
                    chosen = p;
                    least = sum;
                    leastPairs = pairs;
                }
            }
            return chosen;
        }

        void turn(Row row, int p, int from, int many) {
            in = 0;
            side = 0;
            for (int i = 0; i < many; i++) {
                int sample = row.at(from + i);
                int k = left(i, p);
                int later = left(k + p / 4, p);
                in += 2 * k < p ? sample : -sample;
                side += 2 * later < p ? sample : -sample;
            }
        }

        long strength() {
            return (long) in * in + (long) side * side;
        }

        int eighth() {
            int more = Math.abs(side) > Math.abs(in) ? 1 : 0;
            return (side < 0 ? 4 : 0) + (in < 0 ? 2 : 0) + more;
        }

        void turnAll(Row row, int from, int many) {
            for (int p = LEAST_PITCH; p <= MOST_PITCH; p++) {
                turn(row, p, from, many);
                strengths[p] = strength();
            }
        }

        private long strengthAt(int p) {
            return p >= 0 && p < strengths.length ? strengths[p] : 0;
        }

        private boolean isPeak(int p) {
            boolean above = p <= LEAST_PITCH || strengthAt(p) > strengthAt(p - 1);
            return above && (p >= MOST_PITCH || strengthAt(p) >= strengthAt(p + 1));
        }

        /** How many peaks stand ahead of one. */
        private int rankOf(int peak) {
            int ahead = 0;
            for (int p = LEAST_PITCH; p <= MOST_PITCH; p++) {
                boolean before = strengthAt(p) > strengthAt(peak)
                    || strengthAt(p) == strengthAt(peak) && p < peak;
                if (before && isPeak(p)) {
                    ahead++;
                }
            }
            return ahead;
        }

        int rankedPeak(int k) {
            for (int p = LEAST_PITCH; p <= MOST_PITCH; p++) {
                if (isPeak(p) && rankOf(p) == k) {
                    return p;
                }
            }
            return NONE;
        }

        int nearestPeak(int pitch) {
            int nearest = NONE;
            for (int p = LEAST_PITCH; p <= MOST_PITCH; p++) {
                if (isPeak(p) && (nearest == NONE || far(p, pitch) < far(nearest, pitch))) {
                    nearest = p;
                }
            }
            return nearest;
        }
    }

    /** Where a sound crosses 0 upward, and the intervals between. */
    static final class Crossings {
        static final int MOST_STEADIED = MOST_MARKS - 1;

        final int[] places = new int[MOST_SAMPLES / 2];
        int many;

        void find(Row row) {
            many = 0;
            for (int k = 1; k < row.many; k++) {
                if (row.at(k) >= 0 && row.at(k - 1) < 0 && many < places.length) {
                    places[many] = k;
                    many++;
                }
            }
        }

        int at(int k) {
            return k >= 0 && k < many && k < places.length ? places[k] : NONE;
        }

        int intervals() {
            return Math.max(0, many - 1);
        }

        private int interval(int k) {
            return at(k + 1) - at(k);
        }

        private int across() {
            return at(many - 1) - at(0);
        }

        /** The period in hundredths; NONE without intervals. */
        int hundredths() {
            return intervals() == 0 ? NONE : cut(100 * across(), intervals());
        }

        int turns() {
            int chosen = NONE;
            int least = 0;
            int leastPairs = 1;
            for (int turn = 1; 2 * turn <= intervals(); turn++) {
                int sum = 0;
                int pairs = intervals() - turn;
                for (int k = 0; k < pairs; k++) {
                    sum += far(interval(k), interval(k + turn));
                }
                if (chosen == NONE || sum * leastPairs < least * pairs) {
                    chosen = turn;
                    least = sum;
                    leastPairs = pairs;
                }
            }
            return chosen;
        }

        int swing() {
            int least = interval(0);
            int most = least;
            for (int k = 1; k < intervals(); k++) {
                least = Math.min(least, interval(k));
                most = Math.max(most, interval(k));
            }
            return most - least;
        }

        /** Marks by which all intervals become alike; the last crossing has one always. */
        void intoMap(TimeMap map) {
            map.clear();
            int last = intervals();
            int q = 1 + last / MOST_STEADIED;
            int chosen = 1 + cut(last, q);
            boolean lastLeftOut = left(last, q) != 0;
            if (lastLeftOut && chosen == MOST_STEADIED) {
                chosen--;
            }
            for (int i = 0; i < chosen; i++) {
                addSteadied(map, i * q);
            }
            if (lastLeftOut) {
                addSteadied(map, last);
            }
        }

        private void addSteadied(TimeMap map, int k) {
            int to = at(0) + cut(across() * k, intervals());
            if (at(k) > map.lastFrom() && to > map.lastTo()) {
                map.add(at(k), to);
            }
        }
    }
}
