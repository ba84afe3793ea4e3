/**
 * The boundary cases of PARTS and PLANNED, and of promises 26 to 28: one method for each
 * sentence that names one.
 */
public final class EdgesPlanTest {
    private static final int LEAST = Integer.MIN_VALUE;
    private static final int MOST = Integer.MAX_VALUE;

    public static void main(String[] args) {
        partLimits();
        tenParts();
        asNearAsItMay();
        lesserWeightsFirst();
        ofAlikeOnesTheFirst();
        toEachAsMuchAsItMay();
        justThatInAll();
        totals();
        noSuchPart();
        plansAreMadeAnew();
        marksOfAPlan();
        lengthsOfZero();
        asLongAsAMapMayBe();
        planMapRefusals();
        Due.end();
    }

    /** Parts of samples, weight, least and most. */
    private static DrawnSounds made(int[]... parts) {
        DrawnSounds x = new DrawnSounds();
        for (int k = 0; k < parts.length; k++) {
            Due.same("26: part " + k, x.part(parts[k][0], parts[k][1], parts[k][2], parts[k][3]), k + 1);
        }
        return x;
    }

    private static int[] part(int samples, int weight, int least, int most) {
        return new int[] {samples, weight, least, most};
    }

    private static void planned(String what, DrawnSounds x, int total, int weights, int... lengths) {
        Due.same("27: " + what + ": weights for " + total, x.planned(total, -1), weights);
        for (int k = 0; k < lengths.length; k++) {
            Due.same("27: " + what + ": part " + k + " for " + total, x.planned(total, k), lengths[k]);
        }
    }

    /** "each of 1 to 600 SAMPLES, .. least to most long (0 to 1,200), .. a WEIGHT (0 to 99)"; "(not below least)" */
    private static void partLimits() {
        made(part(1, 0, 0, 0), part(600, 99, 1200, 1200), part(1, 0, 0, 1200), part(600, 99, 5, 5));
        int[][] wrong = {{0, 0, 0, 0}, {601, 0, 0, 0}, {-1, 0, 0, 0}, {1, -1, 0, 0}, {1, 100, 0, 0}, {1, 0, -1, 0},
            {1, 0, -1, -1}, {1, 0, 0, -1}, {1, 0, 0, 1201}, {1, 0, 1201, 1201}, {1, 0, 1200, 1201}, {1, 0, 5, 4},
            {1, 0, 1200, 1199}, {LEAST, 0, 0, 0}, {MOST, 0, 0, 0}, {1, LEAST, 0, 0}, {1, MOST, 0, 0}, {1, 0, LEAST, 0},
            {1, 0, MOST, MOST}, {1, 0, 0, LEAST}, {1, 0, 0, MOST}};
        for (int[] p : wrong) {
            DrawnSounds x = made(part(7, 1, 0, 9));
            Due.refused("26: " + p[0] + " " + p[1] + " " + p[2] + " " + p[3], x, Due.WRONG,
                () -> x.part(p[0], p[1], p[2], p[3]));
        }
    }

    /** "PARTS, 10 at most"; "how many there are; -1: there are 10" */
    private static void tenParts() {
        DrawnSounds x = new DrawnSounds();
        for (int k = 1; k <= 10; k++) {
            Due.same("26: part " + k, x.part(600, 99, 1200, 1200), k);
            Due.same("55: parts", x.count(4), k);
        }
        Due.unchanged("26: an eleventh one", x, -1, () -> x.part(1, 0, 0, 0));
        Due.refused("26: a wrong one comes first", x, Due.WRONG, () -> x.part(0, 0, 0, 0));
        planned("the eleventh one is not there", x, 12000, 10 * 600 * 99, 1200, 1200, 1200, 1200, 1200, 1200, 1200, 1200, 1200, 1200);
        Due.same("27: no eleventh one", x.planned(12000, 10), -5000);
    }

    /** "each PART first as near to its SAMPLES as it may" */
    private static void asNearAsItMay() {
        planned("as it is", made(part(10, 3, 0, 20)), 10, 0, 10);
        planned("just as it is", made(part(10, 3, 10, 10)), 10, 0, 10);
        planned("at least 11", made(part(10, 3, 11, 20)), 11, 3, 11);
        planned("at most 9", made(part(10, 3, 0, 9)), 9, 3, 9);
        // one may not stay as it is, so the other comes to less, though it is the dearer one
        planned("both", made(part(10, 1, 15, 20), part(10, 9, 0, 20)), 20, 5 + 45, 15, 5);
        planned("none goes farther than it must", made(part(10, 1, 15, 20), part(10, 9, 0, 20)), 25, 5, 15, 10);
        planned("weights of what comes and goes", made(part(10, 1, 15, 20), part(10, 9, 0, 4)), 19, 5 + 54, 15, 4);
    }

    /** "goes to the PARTS of lesser WEIGHT first" */
    private static void lesserWeightsFirst() {
        int[][] parts = {part(10, 99, 0, 20), part(10, 98, 0, 20), part(10, 0, 0, 20), part(10, 1, 0, 20)};
        DrawnSounds x = made(parts);
        planned("one more", x, 41, 0, 10, 10, 11, 10);
        planned("all to the least", x, 50, 0, 10, 10, 20, 10);
        planned("one to the next", x, 51, 1, 10, 10, 20, 11);
        planned("one to the third", x, 61, 10 + 98, 10, 11, 20, 20);
        planned("one to the dearest", x, 71, 10 + 980 + 99, 11, 20, 20, 20);
        planned("all there may be", x, 80, 10 + 980 + 990, 20, 20, 20, 20);
        planned("one less", x, 39, 0, 10, 10, 9, 10);
        planned("one less of the next", x, 29, 1, 10, 10, 0, 9);
        planned("one less of the third", x, 19, 10 + 98, 10, 9, 0, 0);
        planned("one less of the dearest", x, 9, 10 + 980 + 99, 9, 0, 0, 0);
        planned("nothing", x, 0, 10 + 980 + 990, 0, 0, 0, 0);
    }

    /** "of alike ones to the first" */
    private static void ofAlikeOnesTheFirst() {
        DrawnSounds x = made(part(10, 5, 0, 12), part(10, 5, 0, 20), part(10, 5, 0, 20));
        planned("two more", x, 32, 10, 12, 10, 10);
        planned("three more", x, 33, 15, 12, 11, 10);
        planned("thirteen more", x, 43, 65, 12, 20, 11);
        planned("one less", x, 29, 5, 9, 10, 10);
        planned("eleven less", x, 19, 55, 0, 9, 10);
    }

    /** "to each as much as it may" */
    private static void toEachAsMuchAsItMay() {
        DrawnSounds x = made(part(10, 1, 8, 13), part(10, 2, 0, 30));
        planned("up to its most", x, 23, 3, 13, 10);
        planned("one beyond it", x, 24, 3 + 2, 13, 11);
        planned("down to its least", x, 18, 2, 8, 10);
        planned("one beyond it", x, 17, 2 + 2, 8, 9);
    }

    /** "the lengths that together are just that"; "VOID: it can't be" */
    private static void justThatInAll() {
        DrawnSounds x = made(part(10, 1, 8, 13), part(10, 2, 5, 30));
        planned("all leasts", x, 13, 2 + 10, 8, 5);
        planned("all mosts", x, 43, 3 + 40, 13, 30);
        for (int total : new int[] {0, 12, 44, 12000}) {
            for (int part = -1; part <= 2; part++) {
                Due.same("27: " + total + " can't be, part " + part, x.planned(total, part), -5000);
            }
        }
        Due.same("27: 1 of no parts", new DrawnSounds().planned(1, -1), -5000);
    }

    /** "PLANNED for a total (0 to 12,000)"; "IllegalArgumentException: the total." */
    private static void totals() {
        DrawnSounds x = made(part(10, 1, 0, 13));
        planned("0", x, 0, 10, 0);
        Due.same("27: 12,000 can't be", x.planned(12000, 0), -5000);
        Due.unchanged("28: 12,000 can't be", x, -2, () -> x.planMap(12000));
        for (int total : new int[] {-1, 12001, LEAST, MOST}) {
            Due.refused("27: " + total, x, Due.WRONG, () -> x.planned(total, 0));
            Due.refused("27: " + total + " comes first", x, Due.WRONG, () -> x.planned(total, 5));
            Due.refused("28: " + total, x, Due.WRONG, () -> x.planMap(total));
        }
    }

    /** "the length of a PART; with NONE: all WEIGHTS together; VOID: .. there is no such PART" */
    private static void noSuchPart() {
        DrawnSounds x = made(part(10, 1, 0, 13), part(10, 7, 0, 13));
        planned("both", x, 24, 3 + 7, 13, 11);
        for (int part : new int[] {-2, 2, 9, 10, LEAST, MOST}) {
            Due.same("27: part " + part, x.planned(24, part), -5000);
        }
        Due.same("27: no part of none", new DrawnSounds().planned(0, 0), -5000);
    }

    /** Each PLAN is made from the PARTS, not from the one ahead. */
    private static void plansAreMadeAnew() {
        DrawnSounds x = made(part(10, 1, 0, 13), part(10, 7, 0, 13));
        planned("the most", x, 26, 3 + 21, 13, 13);
        planned("as they are", x, 20, 0, 10, 10);
        Due.same("27: it can't be", x.planned(27, 0), -5000);
        planned("as they are", x, 20, 0, 10, 10);
        Due.same("26: one more", x.part(4, 0, 4, 5), 3);
        planned("with one more", x, 25, 0, 10, 10, 5);
    }

    private static void marks(String what, DrawnSounds x, int map, int[]... due) {
        Due.same("28: " + what + ": marks", x.told(map, 0), due.length);
        Due.same("28: " + what + ": length", x.told(map, 1), due[due.length - 1][1]);
        Due.same("28: " + what + ": last f", x.told(map, 2), due[due.length - 1][0]);
        for (int k = 0; k + 1 < due.length; k++) {
            Due.same("28: " + what + ": place of mark " + k, x.place(map, due[k][1]), due[k][0]);
        }
    }

    private static int[] mark(int from, int to) {
        return new int[] {from, to};
    }

    /** "The PLAN becomes a MAP (of PARTS with SAMPLES and lengths together)": up to ten marks. */
    private static void marksOfAPlan() {
        DrawnSounds x = made(part(10, 1, 0, 13));
        Due.same("28: one", x.planMap(13), 0);
        marks("one", x, 0, mark(10, 13));
        int[][] ten = new int[10][];
        int[][] due = new int[10][];
        for (int k = 0; k < 10; k++) {
            ten[k] = part(60, 1, 1, 120);
            due[k] = mark(60 * (k + 1), k == 0 ? 1 : 60 * k + 1);
        }
        DrawnSounds y = made(ten);
        Due.same("28: ten", y.planMap(541), 0);
        marks("ten", y, 0, due);
        Due.same("28: all as short as may be", y.planMap(10), 1);
        marks("all as short as may be", y, 1, mark(60, 1), mark(120, 2), mark(180, 3), mark(240, 4), mark(300, 5),
            mark(360, 6), mark(420, 7), mark(480, 8), mark(540, 9), mark(600, 10));
        Due.same("55: the parts stay", y.count(4), 10);
    }

    /** "(..; those of length 0 go into the next one, at the end into the one ahead)" */
    private static void lengthsOfZero() {
        int[] gone = part(10, 0, 0, 0);
        int[] some = part(10, 1, 0, 20);
        DrawnSounds x = made(gone, some, some);
        Due.same("28: the first", x.planMap(20), 0);
        marks("the first", x, 0, mark(20, 10), mark(30, 20));
        DrawnSounds y = made(some, gone, some);
        Due.same("28: the middle one", y.planMap(20), 0);
        marks("the middle one", y, 0, mark(10, 10), mark(30, 20));
        Due.same("9: 20 samples in 10", y.place(0, 11), 12);
        DrawnSounds z = made(some, some, gone);
        Due.same("28: the last", z.planMap(20), 0);
        marks("the last", z, 0, mark(10, 10), mark(30, 20));
        DrawnSounds one = made(gone, gone, some, gone, gone);
        Due.same("28: two on both sides", one.planMap(7), 0);
        marks("two on both sides", one, 0, mark(50, 7));
        DrawnSounds two = made(some, gone, gone, some, gone);
        Due.same("28: two between", two.planMap(20), 0);
        marks("two between", two, 0, mark(10, 10), mark(50, 20));
        DrawnSounds none = made(gone, some);
        Due.unchanged("28: all of them", none, -2, () -> none.planMap(0));
        Due.same("28: just one sample", none.planMap(1), 0);
        marks("just one sample", none, 0, mark(20, 1));
    }

    /** "-2: it can't be, or it is no MAP": F up to 600, T up to 1,200, a mark at least. */
    private static void asLongAsAMapMayBe() {
        DrawnSounds x = made(part(300, 1, 0, 1200), part(300, 1, 0, 1200));
        Due.same("28: 600 to 1,200", x.planMap(1200), 0);
        marks("600 to 1,200", x, 0, mark(300, 900), mark(600, 1200));
        Due.unchanged("28: 600 to 1,201", x, -2, () -> x.planMap(1201));
        Due.same("27: it can be planned", x.planned(1201, 0), 901);
        Due.unchanged("28: no mark", x, -2, () -> x.planMap(0));
        Due.same("27: it can be planned", x.planned(0, -1), 600);
        x.part(1, 0, 0, 0);
        Due.unchanged("28: 601, the last of length 0", x, -2, () -> x.planMap(600));
        DrawnSounds y = made(part(1, 0, 0, 0), part(600, 1, 0, 1200));
        Due.unchanged("28: 601, the first of length 0", y, -2, () -> y.planMap(600));
        DrawnSounds z = made(part(1, 0, 1, 1), part(600, 1, 0, 1200));
        Due.unchanged("28: 601", z, -2, () -> z.planMap(600));
        DrawnSounds none = new DrawnSounds();
        Due.unchanged("28: no parts", none, -2, () -> none.planMap(0));
        Due.unchanged("28: no parts", none, -2, () -> none.planMap(1));
    }

    /** "its number; -1: there are 5"; "-1 ahead of -2" */
    private static void planMapRefusals() {
        DrawnSounds x = made(part(10, 1, 0, 13));
        for (int k = 0; k < 5; k++) {
            Due.same("28: map " + k, x.planMap(10), k);
        }
        Due.unchanged("28: a sixth one", x, -1, () -> x.planMap(10));
        Due.unchanged("28: a sixth one that can't be", x, -1, () -> x.planMap(14));
        Due.unchanged("28: a sixth one that is no map", x, -1, () -> x.planMap(0));
        Due.refused("28: the total comes first", x, Due.WRONG, () -> x.planMap(-1));
        Due.refused("28: the total comes first", x, Due.WRONG, () -> x.planMap(12001));
    }
}
