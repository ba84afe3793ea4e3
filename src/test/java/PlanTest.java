/** Promises 26 to 28: parts, plans, maps of plans. */
public final class PlanTest {
    public static void main(String[] args) {
        parts();
        plans();
        maps();
        maps2();
        dearest();
        Due.end();
    }

    private static void parts() {
        DrawnSounds x = new DrawnSounds();
        int[][] wrong = {{0, 1, 1, 1}, {601, 1, 1, 1}, {1, -1, 1, 1}, {1, 100, 1, 1}, {1, 1, -1, 1},
            {1, 1, 1201, 1201}, {1, 1, 0, 1201}, {1, 1, 5, 4}};
        for (int[] w : wrong) {
            Due.thrown("26: " + w[0] + " " + w[1] + " " + w[2] + " " + w[3], Due.WRONG,
                () -> x.part(w[0], w[1], w[2], w[3]));
        }
        for (int k = 1; k <= 10; k++) {
            Due.same("26: part " + k, x.part(600, 99, 1200, 1200), k);
        }
        Due.same("26: a part too many", x.part(1, 0, 0, 0), -1);
        Due.thrown("26: wrong ones come first", Due.WRONG, () -> x.part(0, 0, 0, 0));
        Due.same("55: parts", x.count(4), 10);
        Due.same("27: the most of all", x.planned(12000, -1), 10 * 600 * 99);
        Due.same("27: the most of all", x.planned(12000, 9), 1200);
        Due.same("27: not to be reached", x.planned(11999, -1), -5000);
    }

    private static void planned(DrawnSounds x, int total, int weights, int... lengths) {
        Due.same("27: weights for " + total, x.planned(total, -1), weights);
        for (int k = 0; k < lengths.length; k++) {
            Due.same("27: part " + k + " for " + total, x.planned(total, k), lengths[k]);
        }
        Due.same("27: no such part", x.planned(total, lengths.length), -5000);
        Due.same("27: no such part", x.planned(total, -2), -5000);
    }

    private static void plans() {
        DrawnSounds x = new DrawnSounds();
        Due.same("27: of no parts 0", x.planned(0, -1), 0);
        Due.same("27: of no parts not 1", x.planned(1, -1), -5000);
        Due.same("27: no such part", x.planned(0, 0), -5000);
        x.part(10, 1, 0, 20);
        x.part(10, 1, 0, 30);
        x.part(10, 0, 5, 12);
        planned(x, 30, 0, 10, 10, 10);
        planned(x, 35, 3, 13, 10, 12);
        planned(x, 45, 13, 20, 13, 12);
        planned(x, 62, 30, 20, 30, 12);
        planned(x, 20, 5, 5, 10, 5);
        planned(x, 12, 13, 0, 7, 5);
        planned(x, 5, 20, 0, 0, 5);
        Due.same("27: too much", x.planned(63, -1), -5000);
        Due.same("27: too much", x.planned(63, 0), -5000);
        Due.same("27: too little", x.planned(4, 2), -5000);
        Due.thrown("27: the total", Due.WRONG, () -> x.planned(-1, 0));
        Due.thrown("27: the total", Due.WRONG, () -> x.planned(12001, 0));
        Due.thrown("28: the total", Due.WRONG, () -> x.planMap(-1));
        Due.thrown("28: the total", Due.WRONG, () -> x.planMap(12001));
        // a part that may not stay as long as it is: 4 lack at least, and go to the cheapest first
        x.part(50, 7, 40, 46);
        planned(x, 76, 28, 10, 10, 10, 46);
        planned(x, 70, 29, 9, 10, 5, 46);
    }

    private static void maps() {
        DrawnSounds x = new DrawnSounds();
        Due.same("28: no parts", x.planMap(0), -2);
        x.part(10, 1, 0, 20);
        Due.same("28: no lengths", x.planMap(0), -2);
        x.part(10, 1, 0, 30);
        x.part(10, 0, 5, 12);
        Due.same("28: the first goes into the next", x.planMap(12), 0);
        Due.same("8: marks", x.told(0, 0), 2);
        Due.same("8: length", x.told(0, 1), 12);
        Due.same("8: last f", x.told(0, 2), 30);
        Due.same("9: 20 samples in 7", x.place(0, 6), 17);
        Due.same("9: 20 samples in 7", x.place(0, 7), 20);
        Due.same("28: all", x.planMap(35), 1);
        Due.same("8: marks", x.told(1, 0), 3);
        Due.same("9: as planned", x.place(1, 12), 9);
        Due.same("9: as planned", x.place(1, 13), 10);
        Due.same("9: as planned", x.place(1, 23), 20);
        Due.same("28: not to be reached", x.planMap(63), -2);
        x.part(7, 0, 0, 0);
        Due.same("28: the last goes into the one ahead", x.planMap(30), 2);
        Due.same("8: marks", x.told(2, 0), 3);
        Due.same("8: last f", x.told(2, 2), 37);
        Due.same("8: length", x.told(2, 1), 30);
        Due.same("9: as planned", x.place(2, 20), 20);
        Due.same("9: as planned", x.place(2, 29), 35);
        x.planMap(30);
        Due.same("28: the fifth", x.planMap(30), 4);
        Due.same("28: there are five", x.planMap(30), -1);
        Due.same("28: -1 ahead of -2", x.planMap(63), -1);
        Due.thrown("28: the total comes first", Due.WRONG, () -> x.planMap(-1));
    }

    /** Weights of 99 are spent as others are; a part of one is a mark; so is a plan of one. */
    private static void dearest() {
        DrawnSounds x = new DrawnSounds();
        x.part(5, 99, 1, 9);
        planned(x, 8, 3 * 99, 8);
        Due.same("28: one part", x.planMap(7), 0);
        Due.same("8: one mark", x.told(0, 0), 1);
        Due.same("8: one mark", x.told(0, 1), 7);
        x.part(6, 98, 1, 9);
        planned(x, 2, 4 * 99 + 5 * 98, 1, 1);
        Due.same("28: lengths of one", x.planMap(2), 1);
        Due.same("8: two marks", x.told(1, 0), 2);
        Due.same("9: two marks", x.place(1, 1), 5);
        DrawnSounds y = new DrawnSounds();
        y.part(10, 0, 5, 5);
        y.part(7, 1, 0, 0);
        Due.same("28: the second goes into the first", y.planMap(5), 0);
        Due.same("8: one mark", y.told(0, 0), 1);
        Due.same("8: all samples", y.told(0, 2), 17);
    }

    private static void maps2() {
        DrawnSounds x = new DrawnSounds();
        x.part(599, 0, 0, 1200);
        x.part(1, 1, 1, 1200);
        Due.same("28: 600 to 1,200", x.planMap(1200), 0);
        Due.same("27: to more than 1,200", x.planned(1201, 0), 1200);
        Due.same("28: to more than 1,200", x.planMap(1201), -2);
        x.part(1, 1, 0, 0);
        Due.same("28: 601 samples", x.planMap(600), -2);
        Due.same("55: one map", x.count(1), 1);
    }
}
