/**
 * The boundary cases of PITCH, TURNED SUMS, SUNG, JUMP, COLOUR, PEAKS and LOCKED, and of
 * promises 29 to 32 and 44 to 46: one method for each sentence that names one.
 */
public final class EdgesToneTest {
    private static final int LEAST = Integer.MIN_VALUE;
    private static final int MOST = Integer.MAX_VALUE;

    public static void main(String[] args) {
        pitchOfFewerThanEight();
        twicePAtMostAsMany();
        pitchesFrom4To60();
        pitchByPairs();
        pitchTheLeastOfAlikeOnes();
        rowsInTheSound();
        turnedBy4To60();
        turnedHalves();
        turnedAQuarterLater();
        turnedRows();
        strengthBeyondAnInt();
        eighths();
        sungLimits();
        sungInSteps();
        sungByTime();
        sungOfAnyLength();
        jumps();
        colourLimits();
        colourOfTheLonger();
        colourInSteps();
        peaksFrom4();
        peaksTo60();
        peaksInOrder();
        noSuchPeak();
        lockedToTheNearest();
        lockLimits();
        Due.end();
    }

    private static DrawnSounds made(String sound) {
        DrawnSounds x = new DrawnSounds();
        Due.sound(x, sound);
        return x;
    }

    /** "NONE: fewer than 8." */
    private static void pitchOfFewerThanEight() {
        DrawnSounds x = made("tone 4 9 20;");
        Due.same("29: of 8", x.pitch(0, 0, 8), 4);
        Due.same("29: of the last 8", x.pitch(0, 12, 8), 4);
        for (int many = 0; many < 8; many++) {
            Due.same("29: of " + many, x.pitch(0, 0, many), -1);
            Due.same("29: of the last " + many, x.pitch(0, 20 - many, many), -1);
        }
    }

    /** "twice P being at most how many there are" */
    private static void twicePAtMostAsMany() {
        DrawnSounds x = made("tone 5 90 10;");
        Due.same("29: 5 of 10", x.pitch(0, 0, 10), 5);
        Due.same("29: 4 of 9", x.pitch(0, 0, 9), 4);
        Due.same("29: 4 of 8", x.pitch(0, 1, 8), 4);
        DrawnSounds y = made("tone 60 2000 300;");
        Due.same("29: 60 of 120", y.pitch(0, 0, 120), 60);
        Due.same("29: 59 of 119", y.pitch(0, 0, 119), 59);
        Due.same("29: 59 of 118", y.pitch(0, 0, 118), 59);
        Due.same("29: 58 of 117", y.pitch(0, 0, 117), 58);
    }

    /** "of P from 4 to 60" */
    private static void pitchesFrom4To60() {
        // each one is alike to those 3 behind, and 6
        DrawnSounds x = made(Due.row(10, 20, 30, 10, 20, 30, 10, 20, 30, 10, 20, 30));
        Due.same("29: not 3", x.pitch(0, 0, 12), 6);
        Due.same("29: not 3, where 6 is too many", x.pitch(0, 0, 11) >= 4 ? 1 : 0, 1);
        // alike to those 61 behind alone
        DrawnSounds y = made("hiss 2000 61 5;hiss 2000 61 5;hiss 2000 61 5;");
        int pitch = y.pitch(0, 0, 183);
        Due.same("29: not 61", pitch >= 4 && pitch <= 60 ? 1 : 0, 1);
        DrawnSounds z = made("hiss 2000 60 5;hiss 2000 60 5;hiss 2000 60 5;");
        Due.same("29: 60", z.pitch(0, 0, 180), 60);
        DrawnSounds four = made("hiss 2000 4 5;hiss 2000 4 5;hiss 2000 4 5;");
        Due.same("29: 4", four.pitch(0, 0, 12), 4);
    }

    /** "by how many such pairs there are, is least (fractions)" */
    private static void pitchByPairs() {
        // by 4 the sums are twice the later one and the first one, by 6; by 5 both, by 5
        Due.same("29: 12 by 6 is less than 11 by 5", made(Due.row(0, 10, 0, 0, 1, 0, 0, 0, 0, 0)).pitch(0, 0, 10), 4);
        Due.same("29: 9 by 5 is less than 12 by 6", made(Due.row(0, 6, 0, 0, 3, 0, 0, 0, 0, 0)).pitch(0, 0, 10), 5);
        // by 4 it is 14 by 8, by 5 11 by 7, by 6 9 by 6: each one less than the one ahead
        Due.same("29: 9 by 6 is less than 11 by 7", made(Due.row(1, 0, 2, 0, 0, 0, 0, 1, 5, 2, 2, 0)).pitch(0, 0, 12), 6);
    }

    /** "of these the least" */
    private static void pitchTheLeastOfAlikeOnes() {
        Due.same("29: 12 by 6 is as much as 10 by 5", made(Due.row(0, 8, 0, 0, 2, 0, 0, 0, 0, 0)).pitch(0, 0, 10), 4);
        DrawnSounds x = made("still 300;tone 4 7 300;");
        Due.same("29: all are alike", x.pitch(0, 0, 300), 4);
        Due.same("29: 4, 8, 12 .. are alike", x.pitch(0, 300, 300), 4);
    }

    /** "SAMPLES from one on"; "IllegalArgumentException: they are not in the SOUND." */
    private static void rowsInTheSound() {
        int[][] right = {{0, 20}, {0, 0}, {12, 8}, {19, 1}, {20, 0}};
        for (int[] row : right) {
            DrawnSounds x = made("tone 4 9 20;");
            x.pitch(0, row[0], row[1]);
            x.turned(0, 8, row[0], row[1], 0);
            x.peak(0, row[0], row[1], 0);
            Due.same("46: from " + row[0] + " on " + row[1], x.lock(0, 8, row[0], row[1]) >= 4 ? 1 : 0, 1);
        }
        int[][] wrong = {{-1, 8}, {-8, 8}, {0, 21}, {13, 8}, {20, 1}, {21, 0}, {0, -1}, {8, -8}, {LEAST, 8}, {MOST, 8},
            {8, LEAST}, {8, MOST}, {MOST, MOST}, {LEAST, LEAST}, {LEAST, MOST}, {MOST, 1}};
        for (int[] row : wrong) {
            DrawnSounds x = made("tone 4 9 20;");
            String what = "from " + row[0] + " on " + row[1];
            Due.refused("29: " + what, x, Due.WRONG, () -> x.pitch(0, row[0], row[1]));
            Due.refused("30: " + what, x, Due.WRONG, () -> x.turned(0, 8, row[0], row[1], 0));
            Due.refused("45: " + what, x, Due.WRONG, () -> x.peak(0, row[0], row[1], 0));
            Due.refused("46: " + what, x, Due.WRONG, () -> x.lock(0, 8, row[0], row[1]));
            for (int none : new int[] {-1, 1}) {
                Due.thrown("29: no such sound comes first", Due.NO_SOUND, () -> x.pitch(none, row[0], row[1]));
                Due.thrown("30: no such sound comes first", Due.NO_SOUND, () -> x.turned(none, 8, row[0], row[1], 0));
                Due.thrown("45: no such sound comes first", Due.NO_SOUND, () -> x.peak(none, row[0], row[1], 0));
                Due.thrown("46: no such sound comes first", Due.NO_SOUND, () -> x.lock(none, 8, row[0], row[1]));
            }
        }
    }

    /** "TURNED SUMS by P (4 to 60): 0 IN, 1 SIDE, 2 STRENGTH, 3 EIGHTH"; "also P, what" */
    private static void turnedBy4To60() {
        DrawnSounds x = made("blow 7 1;");
        for (int p : new int[] {4, 5, 59, 60}) {
            int[] due = {7, 7, 98, 0};
            for (int what = 0; what <= 3; what++) {
                Due.same("30: by " + p + ", " + what, x.turned(0, p, 0, 1, what), due[what]);
                Due.same("30: of none by " + p + ", " + what, x.turned(0, p, 1, 0, what), 0);
            }
        }
        for (int p : new int[] {3, 61, 0, -4, LEAST, MOST}) {
            Due.refused("30: by " + p, x, Due.WRONG, () -> x.turned(0, p, 0, 1, 0));
        }
        for (int what : new int[] {-1, 4, LEAST, MOST}) {
            Due.refused("30: " + what, x, Due.WRONG, () -> x.turned(0, 4, 0, 1, what));
        }
        Due.refused("30: no such sound comes first", x, Due.NO_SOUND, () -> x.turned(1, 3, 0, 1, 4));
    }

    /** IN and SIDE of one sample of 1, so far behind the first. */
    private static void one(int p, int behind, int in, int side) {
        DrawnSounds x = made((behind > 0 ? "still " + behind + ";" : "") + "blow 1 1;");
        Due.same("30: in by " + p + " at " + behind, x.turned(0, p, 0, behind + 1, 0), in);
        Due.same("30: side by " + p + " at " + behind, x.turned(0, p, 0, behind + 1, 1), side);
    }

    /** "the first half of each P (k times 2 below P, k what is left by P) less the others" */
    private static void turnedHalves() {
        // by 4: 0, 1; by 5: 0, 1, 2; by 7: 0 to 3; by 60: 0 to 29
        one(4, 1, 1, -1);
        one(4, 2, -1, -1);
        one(5, 2, 1, -1);
        one(5, 3, -1, -1);
        one(6, 2, 1, -1);
        one(6, 3, -1, -1);
        one(7, 3, 1, -1);
        one(7, 4, -1, -1);
        one(59, 29, 1, -1);
        one(59, 30, -1, -1);
        one(60, 29, 1, -1);
        one(60, 30, -1, -1);
        // the next P begins anew
        one(4, 4, 1, 1);
        one(5, 5, 1, 1);
        one(60, 60, 1, 1);
        one(60, 240, 1, 1);
    }

    /** "likewise a quarter later (k and P by 4, cut, what is left by P)" */
    private static void turnedAQuarterLater() {
        // by 4, 5, 7 it is 1 later, by 8 2, by 11 2, by 12 3, by 60 15
        one(4, 0, 1, 1);
        one(4, 3, -1, 1);
        one(5, 1, 1, 1);
        one(5, 4, -1, 1);
        one(7, 2, 1, 1);
        one(7, 5, -1, -1);
        one(7, 6, -1, 1);
        one(8, 1, 1, 1);
        one(8, 2, 1, -1);
        one(8, 5, -1, -1);
        one(8, 6, -1, 1);
        one(11, 3, 1, 1);
        one(11, 4, 1, -1);
        one(11, 8, -1, -1);
        one(11, 9, -1, 1);
        one(12, 2, 1, 1);
        one(12, 3, 1, -1);
        one(12, 9, -1, 1);
        one(60, 14, 1, 1);
        one(60, 15, 1, -1);
        one(60, 44, -1, -1);
        one(60, 45, -1, 1);
        one(60, 59, -1, 1);
    }

    /** "of SAMPLES from one on", so many: those ahead and behind do not count. */
    private static void turnedRows() {
        DrawnSounds x = made(Due.row(900, 3, 1, 900, 900));
        Due.same("30: in", x.turned(0, 4, 1, 2, 0), 3 + 1);
        Due.same("30: side", x.turned(0, 4, 1, 2, 1), 3 - 1);
        Due.same("30: in of one", x.turned(0, 4, 2, 1, 0), 1);
        Due.same("30: in of none", x.turned(0, 4, 2, 0, 0), 0);
        DrawnSounds y = made("hiss 2000 9 4;tone 5 90 10;hiss 2000 9 5;");
        Due.same("29: pitch of those between", y.pitch(0, 9, 10), 5);
        DrawnSounds z = made("blow 2000 1;" + Due.row(1, 0, 1) + "blow 2000 2;");
        Due.same("45: peaks of those between", z.peak(0, 1, 3, 0), 7);
        Due.same("45: peaks of those between", z.peak(0, 1, 3, 2), 5);
        Due.same("46: locked by those between", z.lock(0, 4, 1, 3), 5);
    }

    /** "STRENGTH: both squares together": more than 32 bits hold. */
    private static void strengthBeyondAnInt() {
        DrawnSounds x = made("tone 60 2000 300;tone 60 2000 300;hum 60 2000;");
        long in = x.turned(0, 60, 0, 600, 0);
        long side = x.turned(0, 60, 0, 600, 1);
        Due.same("30: a square beyond 32 bits", in * in > 4294967296L ? 1 : 0, 1);
        Due.same("30: strength", x.turned(0, 60, 0, 600, 2), in * in + side * side);
    }

    /** "EIGHTH: 0 to 7: 4, if SIDE is below 0; 2, if IN is; 1, if SIDE is greater than IN, without signs" */
    private static void eighths() {
        // by 4 IN is the first two less the others, SIDE the outer two less the inner ones
        int[][] due = {{0, 0, 0, 0, 0}, {1, 0, 0, 0, 0}, {0, 1, 0, 0, 4}, {0, 0, 1, 0, 6}, {0, 0, 0, 1, 2}, {2, 0, 0, 1, 1},
            {2, 1, 0, 0, 0}, {0, 1, 2, 0, 7}, {0, 0, 2, 1, 6}, {1, 0, 0, 2, 3}, {0, 0, 1, 2, 2}, {0, 2, 1, 0, 5},
            {1, 2, 0, 0, 4}, {1, 1, 0, 0, 0}, {0, 0, 1, 1, 2}, {1, 0, 0, 1, 1}, {0, 1, 1, 0, 5}};
        for (int[] one : due) {
            DrawnSounds x = made(Due.row(one[0], one[1], one[2], one[3]));
            Due.same("30: eighth of " + one[0] + " " + one[1] + " " + one[2] + " " + one[3],
                x.turned(0, 4, 0, 4, 3), one[4]);
        }
    }

    /** "SUNG by P, width w (8 to 60)"; "IllegalArgumentException: P, w" */
    private static void sungLimits() {
        DrawnSounds x = made("tone 9 90 60;");
        Due.map(x, "mark 60 70;");
        int[][] right = {{4, 8}, {60, 8}, {4, 60}, {60, 60}};
        for (int[] one : right) {
            Due.same("31: " + one[0] + " " + one[1], x.sing(0, 0, one[0], one[1]), 70);
        }
        int[][] wrong = {{3, 8}, {61, 8}, {4, 7}, {4, 61}, {LEAST, 8}, {MOST, 8}, {4, LEAST}, {4, MOST}, {0, 0}, {4, 0}};
        for (int[] one : wrong) {
            Due.refused("31: " + one[0] + " " + one[1], x, Due.WRONG, () -> x.sing(0, 0, one[0], one[1]));
        }
        Due.map(x, "mark 61 70;");
        for (int none : new int[] {-1, 2, LEAST}) {
            Due.thrown("31: no such sound comes first", Due.NO_SOUND, () -> x.sing(none, none, 3, 7));
            Due.thrown("31: no such map comes next", Due.NO_MAP, () -> x.sing(0, none, 3, 7));
        }
        Due.refused("31: p comes next", x, Due.WRONG, () -> x.sing(0, 1, 3, 8));
        Due.refused("31: w comes next", x, Due.WRONG, () -> x.sing(0, 1, 4, 7));
        Due.refused("31: one too few", x, Due.UNFIT, () -> x.sing(0, 1, 4, 8));
    }

    /** "of the w SAMPLES of the SOUND in which PLACE of t lies (counted from 0 in steps of w)"; "without sign" */
    private static void sungInSteps() {
        // 100 is the last of the first 8, 40 the first of the next; less 30 stands alone in the last two
        DrawnSounds x = made("still 7;blow 100 1;blow 40 1;still 6;blow 1 1;still 1;tone 4 30 4;");
        Due.map(x, "mark 21 21;");
        x.sing(0, 0, 4, 8);
        Due.result("31: in steps of 8", x, 0, 100, 0, -100, 0, 100, 0, -100, 0, 40, 0, -40, 0, 40, 0, -40, 0, 30, 0, -30, 0);
        x.sing(0, 0, 4, 9);
        Due.result("31: in steps of 9", x, 0, 100, 0, -100, 0, 100, 0, -100, 0, 1, 0, -1, 0, 1, 0, -1, 0, 1, 0, -30, 0);
        x.sing(0, 0, 4, 60);
        Due.same("31: all in one", x.result(19), -100);
        DrawnSounds y = made("still 15;blow 7 2;");
        Due.map(y, "mark 17 17;");
        y.sing(0, 0, 4, 8);
        Due.result("31: less 7 alone in the last step", y, 0, 0, 0, 0, 0, 0, 0, 0, 0, 7, 0, -7, 0, 7, 0, -7, 0);
    }

    /** "at each t of a MAP"; "k being t" */
    private static void sungByTime() {
        DrawnSounds x = made("blow 8 1;still 7;blow 80 1;still 7;");
        Due.map(x, "mark 8 3;mark 16 9;");
        x.sing(0, 0, 8, 8);
        // PLACE is 8 at 3: the wave goes on as it is
        Due.result("31: by time", x, 0, 4, 8, 40, 0, -40, -80, -40, 0);
    }

    /** "the SOUND has fewer SAMPLES than the MAP asks for": WIDE is not asked for; LENGTH 1 to 1,200 */
    private static void sungOfAnyLength() {
        DrawnSounds x = made("blow 8 1;");
        Due.map(x, "mark 1 1;");
        Due.map(x, "mark 1 1200;");
        Due.map(x, "mark 2 2;");
        Due.same("31: one", x.sing(0, 0, 4, 8), 1);
        Due.result("31: one", x, 0);
        Due.same("31: 1,200", x.sing(0, 1, 4, 60), 1200);
        Due.same("15: the last one", x.result(1199), -8);
        Due.same("15: no more", x.result(1200), -5000);
        Due.refused("31: 1 of 2", x, Due.UNFIT, () -> x.sing(0, 2, 4, 8));
    }

    /** "JUMP (0 of fewer than 2)": "the greatest way from one SAMPLE to the next" */
    private static void jumps() {
        DrawnSounds x = made("blow 9 1;blow 4 1;blow 11 1;blow 11 1;");
        Due.same("32: of none", x.jump(), 0);
        Due.map(x, "mark 1 1;");
        Due.map(x, "mark 2 2;");
        Due.map(x, "mark 3 3;");
        Due.map(x, "mark 4 4;");
        x.pieces(4, 1, 0);
        int[] due = {0, 5, 7, 7};
        for (int map = 0; map < 4; map++) {
            x.draw(0, map);
            Due.same("32: of " + (map + 1), x.jump(), due[map]);
        }
        DrawnSounds y = made("tone 4 2000 4;hum 4 47;blow 2000 2;");
        Due.map(y, "mark 6 6;");
        y.pieces(6, 1, 0);
        y.draw(0, 0);
        Due.same("32: from less 2,047 to 2,000", y.jump(), 4047);
    }

    /** "COLOUR by w (4 to 60)" */
    private static void colourLimits() {
        DrawnSounds x = made("blow 9 1;still 2;blow 8 1;blow 7 1;");
        Due.same("44: by 4", x.colour(0, 4), 9 + 7);
        Due.same("44: by 5", x.colour(0, 5), 9);
        Due.same("44: by 60", x.colour(0, 60), 9);
        for (int w : new int[] {3, 61, 0, -4, LEAST, MOST}) {
            Due.refused("44: by " + w, x, Due.WRONG, () -> x.colour(0, w));
            Due.refused("44: no such sound comes first", x, Due.NO_SOUND, () -> x.colour(1, w));
        }
    }

    /** "for all steps of w SAMPLES of the SOUND or the RESULT"; "0 of none" */
    private static void colourOfTheLonger() {
        DrawnSounds x = made("tone 4 9 20;");
        Due.map(x, "mark 4 4;");
        Due.map(x, "mark 20 20;");
        Due.map(x, "mark 20 24;");
        Due.map(x, "mark 20 25;");
        Due.map(x, "mark 20 26;");
        Due.same("44: without a result", x.colour(0, 4), 5 * 9);
        int[] due = {4 * 9, 0, 9, 9, 9 + 9};
        for (int map = 0; map < 5; map++) {
            x.sing(0, map, 4, 8);
            Due.same("44: of 20 and " + x.length(), x.colour(0, 4), due[map]);
        }
    }

    /** "from 0 on: how far the greatest of both (without signs) are from one another" */
    private static void colourInSteps() {
        DrawnSounds x = made("still 3;blow 50 1;blow 20 2;still 2;blow 5 1;");
        Due.sound(x, "still 7;tone 4 40 4;");
        Due.map(x, "mark 11 11;");
        // 0 to 3, 4 to 7, 8 to 10; less 40 stands at 10
        x.pieces(11, 1, 0);
        x.draw(1, 0);
        Due.same("15: drawn", x.result(10), -40);
        Due.same("44: by 4", x.colour(0, 4), 50 + 20 + 35);
        Due.same("44: by 8", x.colour(0, 8), 50 + 35);
        Due.same("44: by 11", x.colour(0, 11), 10);
    }

    /** "greater than that of P less 1 (if that is 4 or more)" */
    private static void peaksFrom4() {
        // by each P the strength is twice the square
        DrawnSounds x = made("blow 9 1;still 30;");
        Due.same("45: 4, though 3 would be as strong", x.peak(0, 0, 1, 0), 4);
        Due.same("45: 5 is not greater than 4", x.peak(0, 0, 1, 1), -1);
        Due.same("45: of silence", x.peak(0, 1, 30, 0), 4);
        Due.same("45: of silence", x.peak(0, 1, 30, 1), -1);
        Due.same("45: of none", x.peak(0, 31, 0, 0), 4);
        Due.same("45: of none", x.peak(0, 31, 0, 1), -1);
        // 0 by 4, 4 by 5 and 6, 8 by 7, 4 by 8, 8 by all others
        DrawnSounds y = made(Due.row(1, 0, 1));
        int[] strengths = {0, 4, 4, 8, 4, 8};
        for (int p = 4; p <= 60; p++) {
            Due.same("30: strength by " + p, y.turned(0, p, 0, 3, 2), strengths[Math.min(p, 9) - 4]);
        }
        for (int k = 0; k < 5; k++) {
            Due.same("45: 4 is less than 5", y.peak(0, 0, 3, k) == 4 ? 1 : 0, 0);
        }
    }

    /** "and not less than that of P and 1 (if that is 60 or less)" */
    private static void peaksTo60() {
        // 2 by 59, 10 by 60, and by 61 it would be 26
        DrawnSounds x = made("blow 3 1;still 29;blow 1 1;still 58;blow 1 1;");
        Due.same("30: by 59", x.turned(0, 59, 0, 90, 2), 2);
        Due.same("30: by 60", x.turned(0, 60, 0, 90, 2), 10);
        Due.same("46: 60 is a peak", x.lock(0, 60, 0, 90), 60);
        DrawnSounds y = made("tone 60 2000 300;tone 60 2000 300;");
        Due.same("45: the strongest", y.peak(0, 0, 600, 0), 60);
        Due.same("30: 58 is less than 59", y.turned(0, 58, 0, 600, 2) < y.turned(0, 59, 0, 600, 2) ? 1 : 0, 1);
        Due.same("46: 59 is less than 60", y.lock(0, 59, 0, 600), 60);
        // 9 to 60 are alike: 60 is not greater than 59
        DrawnSounds z = made(Due.row(1, 0, 1));
        Due.same("46: the last peak is 9", z.lock(0, 60, 0, 3), 9);
    }

    /** "by STRENGTH, the greatest first, of alike ones the least P" */
    private static void peaksInOrder() {
        // 5 of 4, 7 of 8, 9 of 8: 5 is not less than 6, 9 is not less than 10
        DrawnSounds x = made(Due.row(1, 0, 1));
        int[] due = {7, 9, 5, -1};
        for (int k = 0; k < due.length; k++) {
            Due.same("45: peak " + k, x.peak(0, 0, 3, k), due[k]);
        }
        // 4 by 4, 0 by 5 and 6, 4 by 7 to 10, 8 by 11, 4 by 12, 8 by all others
        DrawnSounds y = made(Due.row(1, 0, 0, 1));
        int[] four = {11, 13, 4, 7, -1};
        for (int k = 0; k < four.length; k++) {
            Due.same("45: with 4, peak " + k, y.peak(0, 0, 4, k), four[k]);
        }
    }

    /** "The k-th PEAK of SAMPLES from one on; NONE." */
    private static void noSuchPeak() {
        DrawnSounds x = made(Due.row(1, 0, 1));
        for (int k : new int[] {-1, 3, 57, LEAST, MOST}) {
            Due.same("45: peak " + k, x.peak(0, 0, 3, k), -1);
        }
    }

    /** "LOCKED is a P: the PEAK nearest to it, of two the lesser." */
    private static void lockedToTheNearest() {
        DrawnSounds x = made(Due.row(1, 0, 1));
        int[][] due = {{4, 5}, {5, 5}, {6, 5}, {7, 7}, {8, 7}, {9, 9}, {10, 9}, {59, 9}, {60, 9}};
        for (int[] one : due) {
            Due.same("46: locked " + one[0], x.lock(0, one[0], 0, 3), one[1]);
        }
        Due.same("46: of silence", x.lock(0, 60, 1, 1), 4);
        // 4, 8, 16, 36, 72, 144, 144, 232, 196, 232 by 4 to 13: all below 9 are less than the next, 10 is no greater
        DrawnSounds y = made(Due.row(1, 3, 3, 3, 3, 1));
        int[] strengths = {4, 8, 16, 36, 72, 144, 144, 232, 196, 232};
        for (int p = 4; p <= 13; p++) {
            Due.same("30: by " + p, y.turned(0, p, 0, 6, 2), strengths[p - 4]);
        }
        for (int p = 4; p <= 10; p++) {
            Due.same("46: locked " + p, y.lock(0, p, 0, 6), 9);
        }
        Due.same("46: locked 11", y.lock(0, 11, 0, 6), 11);
        Due.same("46: of none", x.lock(0, 60, 3, 0), 4);
    }

    /** "IllegalArgumentException: also P." */
    private static void lockLimits() {
        DrawnSounds x = made(Due.row(1, 0, 1));
        for (int p : new int[] {3, 61, 0, -4, LEAST, MOST}) {
            Due.refused("46: locked " + p, x, Due.WRONG, () -> x.lock(0, p, 0, 3));
            Due.refused("46: no such sound comes first", x, Due.NO_SOUND, () -> x.lock(1, p, 0, 3));
        }
    }
}
