/**
 * The boundary cases of PIECES, DRAWN, BLOWS and SHARP, and of promises 11 to 20: one method
 * for each sentence that names one.
 */
public final class EdgesDrawTest {
    private static final int LEAST = Integer.MIN_VALUE;
    private static final int MOST = Integer.MAX_VALUE;
    /** Sixteen samples, all others than the rest; the sixth one is a blow by a floor of 1,900. */
    private static final int[] STEPS = {1, 11, 21, 31, 41, 2000, 61, 71, 81, 91, 101, 111, 121, 131, 141, 151};

    public static void main(String[] args) {
        piecesLimits();
        piecesAtFirst();
        piecesThatAreRefusedStayAsTheyWere();
        asManyAsWide();
        seamsBelowLength();
        drawnByTwelveMarks();
        mostSeams();
        notAboveSamplesLessWide();
        notBelowZero();
        boundedIfThereIsNoSuchO();
        nearestToZeroAndBelowZero();
        unlikeBelowLength();
        cutOffAtLength();
        fadedFromOldToNew();
        fadedCutTowardZero();
        blowingLimits();
        blowsAtFirst();
        floorOrMore();
        timesOrMore();
        ofAsManyAsThereAre();
        noOtherBlowAmongThese();
        noSuchBlow();
        blowsOfTheResult();
        movedBlowsAreWidthLong();
        movedBlowsAsFarAsThereAre();
        movedBlowsAheadOfLength();
        movedBlowsIfThereIsAWhere();
        movedBlowsInOrder();
        drawRefusals();
        lengthOfTheLatestThatDid();
        noSuchResult();
        noSuchSeam();
        keepUpTo600();
        keepRefusals();
        Due.end();
    }

    private static DrawnSounds made(String sound, String map, int wide, int over, int seek) {
        DrawnSounds x = new DrawnSounds();
        Due.sound(x, sound);
        Due.map(x, map);
        x.pieces(wide, over, seek);
        return x;
    }

    private static void seam(String what, DrawnSounds x, int k, int r, int o, int unlike) {
        Due.same(what + ": r of seam " + k, x.seam(k, 0), r);
        Due.same(what + ": o of seam " + k, x.seam(k, 1), o);
        Due.same(what + ": unlike of seam " + k, x.seam(k, 2), unlike);
    }

    /** "WIDE (4 to 64; 16 at first), OVER (1 to WIDE by 2; 4), SEEK (0 to 20; 3)" */
    private static void piecesLimits() {
        int[][] right = {{4, 1, 0}, {4, 2, 20}, {64, 1, 0}, {64, 32, 20}, {5, 2, 3}, {7, 3, 3}, {63, 31, 3}, {16, 8, 0}};
        for (int[] p : right) {
            DrawnSounds x = new DrawnSounds();
            Due.same("11: 16 at first", x.pieces(p[0], p[1], p[2]), 16);
            Due.same("11: taken " + p[0] + " " + p[1] + " " + p[2], x.pieces(16, 4, 3), p[0]);
            DrawnSounds y = new DrawnSounds();
            Due.same("23: taken " + p[0] + " " + p[1] + " " + p[2], y.way(p[0], p[1], p[2]), 0);
        }
        int[][] wrong = {{3, 1, 0}, {65, 4, 3}, {4, 0, 0}, {4, 3, 0}, {5, 3, 0}, {63, 32, 0}, {64, 33, 0}, {16, 9, 3},
            {16, 0, 3}, {16, -1, 3}, {16, 4, -1}, {16, 4, 21}, {0, 0, 0}, {-16, -8, 3}, {LEAST, 1, 0}, {MOST, 1, 0},
            {16, LEAST, 3}, {16, MOST, 3}, {16, 4, LEAST}, {16, 4, MOST}};
        for (int[] p : wrong) {
            DrawnSounds x = new DrawnSounds();
            Due.refused("11: " + p[0] + " " + p[1] + " " + p[2], x, Due.WRONG, () -> x.pieces(p[0], p[1], p[2]));
            Due.refused("23: " + p[0] + " " + p[1] + " " + p[2], x, Due.WRONG, () -> x.way(p[0], p[1], p[2]));
            Due.same("11: they stay", x.pieces(16, 4, 3), 16);
        }
    }

    /** "16 at first", "4", "3" */
    private static void piecesAtFirst() {
        DrawnSounds x = new DrawnSounds();
        Due.sound(x, "still 16;");
        Due.sound(x, "still 15;");
        Due.map(x, "mark 15 25;");
        Due.same("12: 16 of 16, seams at 12 and 24", x.draw(0, 0), 2);
        Due.same("16: r", x.seam(0, 0), 12);
        Due.same("16: r", x.seam(1, 0), 24);
        Due.thrown("12: 15 of 16", Due.UNFIT, () -> x.draw(1, 0));
        DrawnSounds y = new DrawnSounds();
        // 9 stands 3 ahead of where the second one would begin without seeking
        Due.sound(y, Due.row(0, 0, 9, 0, 0, 0, 0, 0, 0));
        Due.sound(y, Due.row(9, 0, 0, 0));
        Due.same("42: by over 4 and seek 3", y.join(0, 1), 2);
        Due.samples("42: by over 4 and seek 3", y, 2, 0, 0, 9, 0, 0, 0);
        Due.sound(y, Due.row(0, 9, 0, 0, 0, 0, 0, 0, 0));
        Due.same("42: 4 ahead is too far", y.join(3, 1), 4);
        Due.same("6: 4 ahead is too far", y.size(4), 9);
    }

    /** "200 at first", "3", "8" */
    private static void blowsAtFirst() {
        DrawnSounds x = new DrawnSounds();
        Due.sound(x, Due.row(199, 0, 0, 0, 0, 0, 0, 0, 0, 200));
        found("19: by a floor of 200", x, 9);
        DrawnSounds y = new DrawnSounds();
        Due.sound(y, "still 1;blow 100 1;blow 299 1;still 8;blow 100 1;blow 300 1;");
        found("19: by 3 times", y, 12);
        DrawnSounds z = new DrawnSounds();
        Due.sound(z, "blow 300 1;still 7;blow 300 1;still 8;blow 300 1;still 7;blow 900 1;");
        found("19: by a width of 8", z, 0, 17);
        DrawnSounds w = new DrawnSounds();
        Due.sound(w, "blow 100 1;still 7;blow 299 1;still 8;blow 100 1;still 8;blow 299 1;");
        found("19: the greatest of 8", w, 26);
    }

    /** "PIECES: the WIDE they had. IllegalArgumentException": all three stay as they were. */
    private static void piecesThatAreRefusedStayAsTheyWere() {
        DrawnSounds x = new DrawnSounds();
        Due.sound(x, Due.row(10, 20, 30, 40, 50, 60));
        Due.sound(x, Due.row(30, 44, 7));
        x.pieces(8, 2, 1);
        Due.thrown("11: a seek too many", Due.WRONG, () -> x.pieces(4, 1, 21));
        Due.thrown("11: an over too many", Due.WRONG, () -> x.pieces(64, 33, 20));
        Due.thrown("11: a wide too many", Due.WRONG, () -> x.pieces(65, 1, 0));
        // by 2 and 1 it begins at 3: 40, 50 and 30, 44; by seek 2 at 2; by over 1 at 4
        Due.same("42: joined", x.join(0, 1), 2);
        Due.samples("42: by over 2 and seek 1", x, 2, 10, 20, 30, 40, (50 + 44) / 2, 7);
        Due.same("11: wide stays", x.pieces(16, 4, 3), 8);
    }

    /** "DRAWN by a MAP is a SOUND of WIDE SAMPLES or more" */
    private static void asManyAsWide() {
        DrawnSounds x = made("still 63;", "mark 4 9;", 64, 4, 3);
        Due.sound(x, "still 64;");
        Due.sound(x, "still 4;");
        Due.refused("12: 63 of 64", x, Due.UNFIT, () -> x.draw(0, 0));
        Due.refused("13: 63 of 64", x, Due.UNFIT, () -> x.sharp(0, 0));
        Due.refused("52: 63 of 64", x, Due.UNFIT, () -> x.lost(0, 0, 0));
        Due.same("12: 64 of 64", x.draw(1, 0), 0);
        Due.same("14: drawn", x.length(), 9);
        x.pieces(4, 1, 0);
        Due.same("12: 4 of 4", x.draw(2, 0), 2);
        x.pieces(5, 1, 0);
        Due.refused("12: 4 of 5", x, Due.UNFIT, () -> x.draw(2, 0));
        Due.refused("13: 4 of 5", x, Due.UNFIT, () -> x.sharp(2, 0));
    }

    /** "the first one WIDE less OVER, each next one as much more, below LENGTH" */
    private static void seamsBelowLength() {
        int[][] due = {{1, 0}, {5, 0}, {6, 0}, {7, 1}, {8, 1}, {12, 1}, {13, 2}, {18, 2}, {19, 3}};
        for (int[] one : due) {
            DrawnSounds x = made("still 20;", "mark 20 " + one[0] + ";", 8, 2, 0);
            Due.same("12: seams of " + one[0], x.draw(0, 0), one[1]);
            Due.same("55: seams of " + one[0], x.count(2), one[1]);
            Due.same("14: length of " + one[0], x.length(), one[0]);
            for (int k = 0; k < one[1]; k++) {
                Due.same("16: r of seam " + k, x.seam(k, 0), 6 * (k + 1));
            }
            Due.same("16: none behind", x.seam(one[1], 0), -5000);
        }
    }

    /** "1 to 12" marks: DRAWN by all of them. */
    private static void drawnByTwelveMarks() {
        StringBuilder twelve = new StringBuilder();
        for (int k = 1; k <= 12; k++) {
            twelve.append("mark ").append(k).append(' ').append(2 * k).append(';');
        }
        DrawnSounds x = made(Due.row(1, 2, 3, 4, 5, 6, 7, 8, 9, 10, 11, 500), twelve.toString(), 4, 1, 0);
        Due.same("12: seams", x.draw(0, 0), 7);
        Due.same("14: up to the twelfth", x.length(), 24);
        seam("16: the last one: PLACE 10 of 0 to 8", x, 6, 21, -2, 500 - 9);
        x.blowing(500, 1, 1);
        Due.same("10: where", x.where(0, 11), 22);
        Due.same("13: a blow at the twelfth", x.sharp(0, 0), 1);
        Due.same("15: it stands there", x.result(22), 500);
    }

    /** The most SEAMS there may be: the narrowest PIECES, half over, to the greatest LENGTH. */
    private static void mostSeams() {
        DrawnSounds x = made("still 300;still 299;blow 1234 1;", "mark 600 1200;", 4, 2, 0);
        Due.same("12: 599", x.draw(0, 0), 599);
        // from 1194 on each piece begins at 596: 0 and 1,234 of the one ahead meet 0 and 0
        seam("16: the last one", x, 598, 1198, -3, 1234);
        Due.same("16: none behind", x.seam(599, 0), -5000);
        Due.same("14: 1,200", x.length(), 1200);
        Due.same("15: the last one is faded", x.result(1199), 1234 / 2);
        Due.same("21: all together", x.harm(0), 3 * 1234);
    }

    /** "not above SAMPLES less WIDE" */
    private static void notAboveSamplesLessWide() {
        // at 3 the sample 50 stands, PLACE is 7: 10, 20, 80, 60, 50 at 5 to 9
        DrawnSounds x = made(Due.row(1, 2, 3, 50, 4, 10, 20, 80, 60, 50, 70, 90), "mark 7 3;mark 12 8;", 4, 1, 2);
        Due.same("12: seams", x.draw(0, 0), 2);
        seam("16: up to 12 less 4", x, 0, 3, 1, 10);
        seam("16: just one is left", x, 1, 6, -2, 30);
        Due.result("12: drawn", x, 1, 2, 3, 50, 50, 70, 90, 50);
        DrawnSounds y = made(Due.row(1, 2, 3, 50, 4, 10, 20, 80, 60, 50, 70, 90, 5), "mark 7 3;mark 12 8;", 4, 1, 2);
        y.draw(0, 0);
        seam("16: up to 13 less 4", y, 0, 3, 2, 0);
        seam("16: two are left", y, 1, 6, -1, 45);
    }

    /** "PLACE of r and o not below 0" */
    private static void notBelowZero() {
        // at 3 a sample of 0 stands, as if it stood ahead of the first one
        DrawnSounds x = made(Due.row(10, 20, 30, 0, 9, 9, 9, 9, 9, 9, 9, 9), "mark 1 4;mark 12 12;", 4, 1, 2);
        x.draw(0, 0);
        seam("16: PLACE 0", x, 0, 3, 0, 10);
        DrawnSounds y = made(Due.row(5, 20, 30, 0, 9, 9, 9, 9, 9, 9, 9, 9), "mark 1 3;mark 12 14;", 4, 1, 1);
        y.draw(0, 0);
        seam("16: down to 0", y, 0, 3, -1, 5);
        y.pieces(4, 1, 2);
        y.draw(0, 0);
        seam("16: 1 less 2 is below 0", y, 0, 3, 2, 0);
    }

    /** "(both together bounded into this, if there is no such o: o is then what brings it there)" */
    private static void boundedIfThereIsNoSuchO() {
        int[] seeks = {0, 1, 2, 4, 5, 20};
        for (int seek : seeks) {
            DrawnSounds x = made("still 12;", "mark 12 24;", 8, 2, seek);
            Due.same("12: seams", x.draw(0, 0), 3);
            seam("16: PLACE 3 of 0 to 4, seek " + seek, x, 0, 6, 0, 0);
            seam("16: PLACE 6, seek " + seek, x, 1, 12, -2, 0);
            seam("16: PLACE 9, seek " + seek, x, 2, 18, -5, 0);
        }
        DrawnSounds x = made("still 8;", "mark 8 24;", 8, 2, 1);
        x.draw(0, 0);
        seam("16: PLACE 2 of 0 to 0", x, 0, 6, -2, 0);
        seam("16: PLACE 4 of 0 to 0", x, 1, 12, -4, 0);
        DrawnSounds y = made("still 8;", "mark 1 6;mark 8 12;", 8, 2, 1);
        y.draw(0, 0);
        seam("16: PLACE 1 of 0 to 0", y, 0, 6, -1, 0);
    }

    /** "of these the one nearest to 0, of two such the one below 0" */
    private static void nearestToZeroAndBelowZero() {
        // at 3 the sample 50 stands, PLACE is 7: what stands at 5 to 9, and the o and UNLIKE due
        int[][] cases = {{40, 40, 40, 40, 40, 0, 10}, {0, 40, 0, 40, 0, -1, 10}, {40, 0, 0, 40, 0, 1, 10},
            {0, 40, 0, 0, 40, -1, 10}, {40, 0, 0, 0, 40, -2, 10}, {45, 40, 40, 40, 40, -2, 5}, {40, 40, 40, 40, 45, 2, 5},
            {41, 41, 40, 41, 41, -1, 9}, {0, 40, 40, 40, 0, 0, 10}, {0, 0, 0, 60, 0, 1, 10}, {0, 0, 0, 60, 40, 1, 10}};
        for (int[] c : cases) {
            DrawnSounds x = made(Due.row(0, 0, 0, 50, 0, c[0], c[1], c[2], c[3], c[4], 0, 0, 0, 0, 0, 0),
                "mark 7 3;mark 16 12;", 4, 1, 2);
            x.draw(0, 0);
            seam("16: " + c[0] + " " + c[1] + " " + c[2] + " " + c[3] + " " + c[4], x, 0, 3, c[5], c[6]);
        }
    }

    /** "for k from 0 to OVER less 1 (as far as r and k is below LENGTH)" */
    private static void unlikeBelowLength() {
        // 50, 60 at 2, 3; PLACE 7: 50, 0 at 6 and 49, 60 at 8
        String sound = Due.row(0, 0, 50, 60, 0, 0, 50, 0, 49, 60, 0, 0, 0, 0, 0, 0);
        DrawnSounds x = made(sound, "mark 7 2;mark 16 3;", 4, 2, 2);
        Due.same("12: one seam", x.draw(0, 0), 1);
        seam("16: just one sample", x, 0, 2, -1, 0);
        Due.result("12: drawn", x, 0, 0, 50);
        DrawnSounds y = made(sound, "mark 7 2;mark 16 4;", 4, 2, 2);
        Due.same("12: one seam", y.draw(0, 0), 1);
        seam("16: two samples", y, 0, 2, 1, 1);
        Due.result("12: drawn", y, 0, 0, 50, 60);
    }

    /** "What is at LENGTH or behind is cut off." */
    private static void cutOffAtLength() {
        int[] lengths = {1, 3, 4, 5, 6, 7};
        int[] due = {10, 20, 30, 40, 50, 60, 70, 70};
        for (int length : lengths) {
            DrawnSounds x = made(Due.row(10, 20, 30, 40, 50, 60, 70, 80), "mark " + length + " " + length + ";", 4, 2, 0);
            x.draw(0, 0);
            Due.same("14: cut at " + length, x.length(), length);
            for (int k = 0; k <= 8; k++) {
                Due.same("15: cut at " + length + ", sample " + k, x.result(k), k < length ? due[k] : -5000);
            }
        }
    }

    /** "what was there times (OVER less k) and the SAMPLE times k, by OVER; behind it the SAMPLES of the piece" */
    private static void fadedFromOldToNew() {
        DrawnSounds x = made("tone 4 100 2;" + Due.row(100, 100, 100, 100, 100, 100, 0, 0, 0, 0, 0, 0, 7),
            "mark 8 4;mark 15 12;", 7, 3, 0);
        // 0, 100 x 7, 0 x 6, 7; r 4: PLACE 8: 100 and 0 by thirds; r 8: PLACE 11, to 8: 7 and 0 at the last third
        Due.same("12: two seams", x.draw(0, 0), 2);
        Due.result("12: faded by thirds", x, 0, 100, 100, 100, 100, 66, 33, 0, 0, 0, 2, 0);
        x.pieces(7, 1, 0);
        // r 6: PLACE 9, to 8: all is as it was, and the piece behind that
        Due.same("12: one seam", x.draw(0, 0), 1);
        Due.result("12: over 1 leaves what was there", x, 0, 100, 100, 100, 100, 100, 100, 0, 0, 0, 0, 0);
        seam("16: over 1", x, 0, 6, -1, 100);
        DrawnSounds y = made(Due.row(8, 8, 8, 8, 8, 8, 8, 8, 0, 0, 0, 4, 0, 0, 0, 0), "mark 8 4;mark 16 8;", 8, 4, 0);
        y.draw(0, 0);
        Due.result("12: faded by quarters", y, 8, 8, 8, 8, 8, 6, 4, (8 + 3 * 4) / 4);
    }

    /** "by OVER (cut toward 0)" */
    private static void fadedCutTowardZero() {
        DrawnSounds x = made("tone 4 5 8;", "mark 1 2;mark 8 9;", 4, 2, 0);
        // r 2: PLACE 1: (-5 and 0) by 2; r 4: PLACE 3; r 6: PLACE 5, to 4: (0 and 5) by 2; r 8: PLACE 7, to 4
        Due.same("12: four seams", x.draw(0, 0), 4);
        Due.result("12: cut toward 0", x, 0, 5, 0, -2, -5, 0, 5, 2, 0);
        seam("16: the last one", x, 3, 8, -3, 0);
    }

    /** "FLOOR (1 to 2,047; 200 at first), TIMES (1 to 20; 3), WIDTH (1 to 40; 8)" */
    private static void blowingLimits() {
        int[][] right = {{1, 1, 1}, {2047, 20, 40}, {1, 20, 1}, {2047, 1, 40}};
        for (int[] b : right) {
            DrawnSounds x = new DrawnSounds();
            Due.same("18: 200 at first", x.blowing(b[0], b[1], b[2]), 200);
            Due.same("18: taken", x.blowing(200, 3, 8), b[0]);
        }
        int[][] wrong = {{0, 3, 8}, {2048, 3, 8}, {-1, 3, 8}, {200, 0, 8}, {200, 21, 8}, {200, 3, 0}, {200, 3, 41},
            {LEAST, 3, 8}, {MOST, 3, 8}, {200, LEAST, 8}, {200, MOST, 8}, {200, 3, LEAST}, {200, 3, MOST}};
        for (int[] b : wrong) {
            DrawnSounds x = new DrawnSounds();
            x.blowing(100, 2, 2);
            Due.refused("18: " + b[0] + " " + b[1] + " " + b[2], x, Due.WRONG, () -> x.blowing(b[0], b[1], b[2]));
            // 197 is not 2 times 99, 198 is; 100 stands 3 behind that
            Due.sound(x, Due.row(99, 0, 197, 0, 0, 99, 0, 198, 0, 0, 100));
            found("18: they stay as they were", x, 7, 10);
            Due.same("18: the floor stays", x.blowing(200, 3, 8), 100);
        }
    }

    private static void found(String what, DrawnSounds x, int... due) {
        for (int k = 0; k <= due.length; k++) {
            Due.same(what + ": blow " + k, x.blow(0, k), k < due.length ? due[k] : -1);
        }
    }

    private static void found(String what, String sound, int floor, int times, int width, int... due) {
        DrawnSounds x = new DrawnSounds();
        Due.sound(x, sound);
        x.blowing(floor, times, width);
        found(what, x, due);
    }

    /** "a SAMPLE of FLOOR or more (without sign)" */
    private static void floorOrMore() {
        found("19: 500 by 500", Due.row(0, 500), 500, 1, 1, 1);
        found("19: 500 by 501", Due.row(0, 500), 501, 1, 1);
        found("19: 1 by 1", Due.row(0, 1), 1, 1, 1, 1);
        found("19: 0 by 1", Due.row(0, 0), 1, 1, 1);
        found("19: 2,047 by 2,047", "tone 4 2000 4;hum 4 47;", 2047, 20, 1, 1, 3);
        found("19: 2,046 by 2,047", "tone 4 2000 4;hum 4 46;", 2047, 20, 1);
        found("19: less 500 by 500", "tone 4 500 8;", 500, 1, 1, 1, 3, 5, 7);
        found("19: less 500 by 501", "tone 4 500 8;", 501, 1, 1);
        DrawnSounds x = new DrawnSounds();
        Due.sound(x, Due.row(0, 199, 0, 0, 0, 0, 0, 0, 0, 0, 200));
        found("19: 200 at first", x, 10);
    }

    /** "TIMES the greatest of the WIDTH SAMPLES ahead or more" */
    private static void timesOrMore() {
        int[] times = {1, 3, 20};
        for (int t : times) {
            // the one ahead is no blow itself, by the floor or by the 100 ahead of it
            String ahead = t == 1 ? Due.row(100, 0, 95) : Due.row(0, 0, 95);
            int floor = t == 1 ? 90 : 95 * t - 1;
            int[] first = t == 1 ? new int[] {0} : new int[0];
            found("19: just " + t + " times", ahead + Due.row(0, 95 * t), floor, t, 2, t == 1 ? new int[] {0, 4} : new int[] {4});
            found("19: not " + t + " times", ahead + Due.row(0, 95 * t - 1), floor, t, 2, first);
            // three behind it is not among the two ahead
            found("19: farther than width", ahead + Due.row(0, 0, 95 * t - 1), floor, t, 2, t == 1 ? new int[] {0, 5} : new int[] {5});
        }
        // less 90 is among those ahead, without sign
        found("19: 270 is 3 times 90", "blow 90 2;blow 270 1;", 270, 3, 1, 2);
        found("19: 269 is not", "blow 90 2;blow 269 1;", 269, 3, 1);
        found("19: the WIDTH-th ahead counts", Due.row(90, 0, 0, 269), 269, 3, 3);
        found("19: one farther does not", Due.row(90, 0, 0, 0, 269), 269, 3, 3, 4);
        found("19: 40 ahead", "blow 90 1;still 39;blow 269 1;", 269, 3, 40);
        found("19: 41 ahead", "blow 90 1;still 40;blow 269 1;", 269, 3, 40, 41);
    }

    /** "(of as many as there are; 0 of none)" */
    private static void ofAsManyAsThereAre() {
        found("19: the first one", Due.row(200), 200, 20, 40, 0);
        found("19: one ahead", Due.row(10, 200), 200, 20, 40, 1);
        found("19: one ahead", Due.row(10, 199), 199, 20, 40);
        found("19: the only one", Due.row(199), 200, 20, 40);
    }

    /** "and no other BLOW is among these" */
    private static void noOtherBlowAmongThese() {
        found("19: 3 behind", Due.row(500, 0, 0, 500), 500, 1, 3, 0);
        found("19: 4 behind", Due.row(500, 0, 0, 0, 500), 500, 1, 3, 0, 4);
        // the one at 3 is none, so it does not keep the one at 6 from being one
        found("19: 3 behind one that is none", Due.row(500, 0, 0, 500, 0, 0, 500), 500, 1, 3, 0, 6);
        found("19: 40 behind", "blow 500 1;still 39;blow 500 1;", 500, 1, 40, 0);
        found("19: 41 behind", "blow 500 1;still 40;blow 500 1;", 500, 1, 40, 0, 41);
        found("19: by a width of 1", Due.row(500, 500, 500, 500), 500, 1, 1, 0, 2);
    }

    /** "The k-th BLOW of a SOUND; NONE." */
    private static void noSuchBlow() {
        DrawnSounds x = new DrawnSounds();
        Due.sound(x, Due.row(0, 500, 0, 500));
        x.blowing(500, 1, 1);
        Due.same("19: the last one", x.blow(0, 1), 3);
        for (int k : new int[] {-1, 2, LEAST, MOST}) {
            Due.same("19: blow " + k, x.blow(0, k), -1);
        }
        Due.sound(x, "still 4;");
        Due.same("19: of none", x.blow(1, 0), -1);
        for (int sound : new int[] {-1, 2, LEAST, MOST}) {
            Due.refused("19: sound " + sound, x, Due.NO_SOUND, () -> x.blow(sound, 0));
        }
        DrawnSounds y = new DrawnSounds();
        Due.sound(y, "tone 4 9 300;tone 4 9 300;");
        y.blowing(1, 1, 1);
        Due.same("19: as many as there may be", y.blow(0, 299), 599);
        Due.same("19: no more", y.blow(0, 300), -1);
    }

    /** "How many BLOWS the RESULT has." */
    private static void blowsOfTheResult() {
        DrawnSounds x = made("tone 4 9 300;tone 4 9 300;", "mark 600 1200;", 4, 1, 0);
        Due.same("20: none without a result", x.blows(), 0);
        x.sing(0, 0, 4, 8);
        x.blowing(1, 1, 1);
        Due.same("20: as many as there may be", x.blows(), 600);
        x.blowing(10, 1, 1);
        Due.same("20: none is as great", x.blows(), 0);
    }

    /** "each BLOW is moved whole: its WIDTH SAMPLES" */
    private static void movedBlowsAreWidthLong() {
        // PLACE of t is 2 t: drawn 1, 11, 21, 31, 71, 81, 91, 131; the blow at 5 goes to 3
        int[][] due = {{1, 1, 11, 21, 2000, 71, 81, 91, 131}, {2, 1, 11, 21, 2000, 61, 81, 91, 131},
            {3, 1, 11, 21, 2000, 61, 71, 91, 131}, {4, 1, 11, 21, 2000, 61, 71, 81, 131},
            {5, 1, 11, 21, 2000, 61, 71, 81, 91}, {40, 1, 11, 21, 2000, 61, 71, 81, 91}};
        for (int[] one : due) {
            DrawnSounds x = made(Due.row(STEPS), "mark 16 8;", 4, 1, 0);
            x.blowing(1900, 1, one[0]);
            Due.same("10: where", x.where(0, 5), 3);
            x.draw(0, 0);
            Due.result("12: drawn", x, 1, 11, 21, 31, 71, 81, 91, 131);
            Due.same("13: one moved", x.sharp(0, 0), 1);
            Due.result("13: width " + one[0], x, java.util.Arrays.copyOfRange(one, 1, 9));
        }
    }

    /** "(as far as there are; ..)" */
    private static void movedBlowsAsFarAsThereAre() {
        int[] last = STEPS.clone();
        last[5] = 51;
        last[15] = 2000;
        DrawnSounds x = made(Due.row(last), "mark 16 32;", 4, 1, 0);
        x.blowing(1900, 1, 40);
        Due.same("10: where", x.where(0, 15), 30);
        Due.same("13: the last sample is a blow", x.sharp(0, 0), 1);
        Due.same("15: it stands there", x.result(30), 2000);
        Due.same("15: what was drawn stays behind it", x.result(31), 131);
        Due.same("14: no more comes of it", x.length(), 32);
        int[] first = STEPS.clone();
        first[0] = 2000;
        first[5] = 51;
        DrawnSounds y = made(Due.row(first), "mark 16 32;", 4, 1, 0);
        y.blowing(1900, 1, 5);
        Due.same("13: the first sample is a blow", y.sharp(0, 0), 1);
        Due.same("15: it stands there", y.result(0), 2000);
        Due.same("15: its fifth one too", y.result(4), 41);
    }

    /** "(..; ahead of LENGTH)" */
    private static void movedBlowsAheadOfLength() {
        DrawnSounds x = made(Due.row(STEPS), "mark 6 8;", 4, 1, 0);
        x.blowing(1900, 1, 40);
        Due.same("10: where", x.where(0, 5), 7);
        Due.same("13: at the last time there is", x.sharp(0, 0), 1);
        Due.same("15: it stands there", x.result(7), 2000);
        Due.same("15: nothing behind", x.result(8), -5000);
        Due.same("14: no longer", x.length(), 8);
    }

    /** "(if there is a WHERE)"; "how many BLOWS were moved" */
    private static void movedBlowsIfThereIsAWhere() {
        DrawnSounds x = made(Due.row(STEPS), "mark 5 8;", 4, 1, 0);
        x.blowing(1900, 1, 4);
        Due.same("10: no where", x.where(0, 5), -1);
        Due.same("13: none moved", x.sharp(0, 0), 0);
        Due.same("14: drawn all the same", x.length(), 8);
        // blows at 0, 7 and 13, where the map ends
        DrawnSounds y = made(Due.row(900, 0, 0, 0, 0, 0, 0, 900, 0, 0, 0, 0, 0, 900), "mark 13 13;", 4, 1, 0);
        y.blowing(900, 1, 1);
        Due.same("19: three", y.blow(0, 2), 13);
        Due.same("13: two of three", y.sharp(0, 0), 2);
        DrawnSounds z = made("still 16;", "mark 16 16;", 4, 1, 0);
        Due.same("13: no blows", z.sharp(0, 0), 0);
    }

    /** "each BLOW of the SOUND, in order" */
    private static void movedBlowsInOrder() {
        DrawnSounds x = made(Due.row(1, 11, 1000, 31, 41, 51, 61, 1000, 81, 91, 101, 111, 121, 131, 141, 151),
            "mark 16 8;", 4, 1, 0);
        x.blowing(900, 1, 4);
        // the first one from 1 to 4, the second from 4 to 7
        Due.same("13: two", x.sharp(0, 0), 2);
        Due.result("13: the later one lies above", x, 1, 1000, 31, 41, 1000, 81, 91, 101);
    }

    /** Promises 12, 13: the exceptions "in the order of throws" */
    private static void drawRefusals() {
        for (int none : new int[] {-1, 1, LEAST, MOST}) {
            DrawnSounds x = made("still 15;", "mark 16 20;", 16, 4, 3);
            Due.refused("12: no such sound comes first", x, Due.NO_SOUND, () -> x.draw(none, none));
            Due.refused("12: no such map comes next", x, Due.NO_MAP, () -> x.draw(0, none));
            Due.refused("13: no such sound comes first", x, Due.NO_SOUND, () -> x.sharp(none, none));
            Due.refused("13: no such map comes next", x, Due.NO_MAP, () -> x.sharp(0, none));
        }
    }

    /** "How long the RESULT is (of the latest draw(), sharp(), sing() that did; 0 at first)." */
    private static void lengthOfTheLatestThatDid() {
        DrawnSounds x = made("still 16;", "mark 16 20;", 16, 4, 3);
        Due.map(x, "mark 17 30;");
        Due.map(x, "mark 16 25;");
        Due.same("14: at first", x.length(), 0);
        Due.refused("12: refused", x, Due.UNFIT, () -> x.draw(0, 1));
        Due.same("12: did", x.draw(0, 0), 1);
        Due.same("14: of the draw that did", x.length(), 20);
        Due.refused("12: refused", x, Due.UNFIT, () -> x.draw(0, 1));
        Due.refused("13: refused", x, Due.UNFIT, () -> x.sharp(0, 1));
        Due.refused("31: refused", x, Due.UNFIT, () -> x.sing(0, 1, 4, 8));
        Due.refused("43: refused", x, Due.WRONG, () -> x.shift(0, 0, 1));
        Due.same("13: did", x.sharp(0, 2), 0);
        Due.same("14: of the sharp that did", x.length(), 25);
        Due.same("31: did", x.sing(0, 0, 4, 8), 20);
        Due.same("14: of the sing that did", x.length(), 20);
    }

    /** "A SAMPLE of the RESULT; VOID: there is none such." */
    private static void noSuchResult() {
        DrawnSounds x = made(Due.row(1, 2, 3, 4), "mark 4 4;", 4, 1, 0);
        for (int k : new int[] {-1, 0, 1, LEAST, MOST}) {
            Due.same("15: none at first, " + k, x.result(k), -5000);
        }
        x.draw(0, 0);
        Due.same("15: the first", x.result(0), 1);
        Due.same("15: the last", x.result(3), 4);
        for (int k : new int[] {-1, 4, LEAST, MOST}) {
            Due.same("15: none such, " + k, x.result(k), -5000);
        }
        Due.sound(x, "tone 60 2000 300;tone 60 2000 300;");
        Due.map(x, "mark 600 1200;");
        x.draw(1, 1);
        Due.same("15: the last of 1,200", x.result(1199) == -5000 ? 1 : 0, 0);
        Due.same("15: none behind 1,200", x.result(1200), -5000);
    }

    /** "Of a SEAM (k from 0 on): 0 r, 1 o, 2 UNLIKE; VOID: there is none such." */
    private static void noSuchSeam() {
        DrawnSounds x = made("still 16;", "mark 16 16;", 8, 2, 0);
        for (int what : new int[] {-1, 3, LEAST, MOST}) {
            Due.thrown("16: another what without seams", Due.WRONG, () -> x.seam(0, what));
        }
        for (int k : new int[] {-1, 0, 1, LEAST, MOST}) {
            Due.same("16: none at first, " + k, x.seam(k, 0), -5000);
        }
        Due.same("12: two seams", x.draw(0, 0), 2);
        Due.same("16: the first", x.seam(0, 0), 6);
        Due.same("16: the last", x.seam(1, 0), 12);
        for (int what = 0; what <= 2; what++) {
            for (int k : new int[] {-1, 2, LEAST, MOST}) {
                Due.same("16: none such, " + k, x.seam(k, what), -5000);
            }
        }
        for (int what : new int[] {-1, 3, LEAST, MOST}) {
            Due.refused("16: another what", x, Due.WRONG, () -> x.seam(0, what));
            Due.refused("16: another what of no seam", x, Due.WRONG, () -> x.seam(2, what));
        }
    }

    /** "-2: it is longer than 600, or there is none" */
    private static void keepUpTo600() {
        DrawnSounds x = made("still 16;", "mark 16 600;", 16, 4, 3);
        Due.map(x, "mark 16 601;");
        Due.map(x, "mark 1 1;");
        Due.unchanged("17: there is none", x, -2, () -> x.keep());
        x.draw(0, 1);
        Due.unchanged("17: 601", x, -2, () -> x.keep());
        x.draw(0, 0);
        Due.same("17: 600", x.keep(), 1);
        Due.same("6: 600", x.size(1), 600);
        x.draw(0, 2);
        Due.same("17: one", x.keep(), 2);
        Due.same("6: one", x.size(2), 1);
        x.sing(0, 1, 4, 8);
        Due.unchanged("17: 601 that were sung", x, -2, () -> x.keep());
        x.sing(0, 0, 4, 8);
        Due.same("17: 600 that were sung", x.keep(), 3);
        x.image();
        x.restore();
        Due.unchanged("17: there is none again", x, -2, () -> x.keep());
    }

    /** "-1: there are 5"; "-1 ahead of -2" */
    private static void keepRefusals() {
        DrawnSounds x = made("still 16;", "mark 16 601;", 16, 4, 3);
        for (int k = 1; k < 5; k++) {
            Due.sound(x, "still 1;");
        }
        Due.unchanged("17: five and none", x, -1, () -> x.keep());
        x.draw(0, 0);
        Due.unchanged("17: five and 601", x, -1, () -> x.keep());
        Due.map(x, "mark 16 16;");
        x.draw(0, 1);
        Due.unchanged("17: five", x, -1, () -> x.keep());
    }
}
