/**
 * The boundary cases of HARM, COUNTED, WAYS and BEST, and of promises 21 to 25: one method for
 * each sentence that names one.
 */
public final class EdgesHarmTest {
    private static final int LEAST = Integer.MIN_VALUE;
    private static final int MOST = Integer.MAX_VALUE;

    public static void main(String[] args) {
        harmOfNothing();
        harmOfSung();
        harmOfTheLatestThatDid();
        harmOfTheLatestAlone();
        harmOfTheLastSeam();
        smearInTwiceWidth();
        smearBelowLength();
        smearAsFarAsThereAre();
        smearIfThereIsAWhere();
        smearHalfOrMore();
        smearWithoutSigns();
        doubledNotBelowZero();
        ringWidthSamplesOfZero();
        ringBehindTheEnd();
        ringWithoutSigns();
        countedTogether();
        countedAtMost();
        weighLimits();
        fourWays();
        bestIsTheFirstOfAlikeOnes();
        bestWithoutWays();
        bestForSomeWay();
        bestLeavesPiecesAndResult();
        partsBetweenMarks();
        partsThatThereAre();
        bestOfTheFirstOfAlikeOnes();
        refusalsInTheirOrder();
        Due.end();
    }

    private static DrawnSounds made(String sound, String map, int wide, int over, int seek) {
        DrawnSounds x = new DrawnSounds();
        Due.sound(x, sound);
        Due.map(x, map);
        x.pieces(wide, over, seek);
        return x;
    }

    /** "NONE: nothing was DRAWN yet"; "IllegalArgumentException: another what." */
    private static void harmOfNothing() {
        DrawnSounds x = made("still 16;", "mark 16 16;", 4, 1, 0);
        for (int what = 0; what <= 4; what++) {
            Due.same("21: nothing was drawn yet, " + what, x.harm(what), -1);
        }
        int[] wrong = {-1, 5, LEAST, MOST};
        for (int what : wrong) {
            Due.refused("21: another what comes first, " + what, x, Due.WRONG, () -> x.harm(what));
        }
        x.draw(0, 0);
        for (int what = 0; what <= 4; what++) {
            Due.same("21: drawn, " + what, x.harm(what), 0);
        }
        for (int what : wrong) {
            Due.refused("21: another what, " + what, x, Due.WRONG, () -> x.harm(what));
        }
    }

    /** "or the RESULT was SUNG since (it has no SEAMS then)" */
    private static void harmOfSung() {
        DrawnSounds x = made("still 16;", "mark 16 16;", 4, 1, 0);
        x.draw(0, 0);
        Due.same("55: seams", x.count(2), 5);
        x.sing(0, 0, 4, 8);
        for (int what = 0; what <= 4; what++) {
            Due.same("21: sung since, " + what, x.harm(what), -1);
        }
        Due.same("55: no seams", x.count(2), 0);
        for (int what = 0; what <= 2; what++) {
            Due.same("16: no seams", x.seam(0, what), -5000);
        }
        x.sharp(0, 0);
        Due.same("21: sharp since", x.harm(0), 0);
        x.sing(0, 0, 4, 8);
        x.draw(0, 0);
        Due.same("21: drawn since", x.harm(4), 0);
        x.image();
        x.restore();
        Due.same("54: as at first", x.harm(0), -1);
    }

    /** "HARM of the latest DRAWN or SHARP": a refused one is none, and other sounds and maps are other ones. */
    private static void harmOfTheLatestThatDid() {
        DrawnSounds x = made(Due.row(0, 0, 0, 50, 0, 0, 0, 0, 90, 90, 90, 90, 90), "mark 8 3;mark 12 8;", 4, 1, 0);
        // r 3: PLACE 8: 50 meets 90; r 6: PLACE 10, to 9: 90 meets 90
        x.draw(0, 0);
        Due.same("21: of the draw", x.harm(0), 40);
        Due.map(x, "mark 14 14;");
        Due.sound(x, "still 14;");
        Due.refused("12: refused", x, Due.UNFIT, () -> x.draw(0, 1));
        Due.refused("13: refused", x, Due.UNFIT, () -> x.sharp(0, 1));
        Due.same("21: of the draw still", x.harm(0), 40);
        x.sharp(1, 1);
        Due.same("21: of the sharp", x.harm(0), 0);
    }

    /** The SEAMS and the SOUND of a longer drawing ahead of it do not count. */
    private static void harmOfTheLatestAlone() {
        DrawnSounds x = made("tone 4 2000 300;tone 4 2000 300;", "mark 1 1199;mark 600 1200;", 4, 2, 0);
        x.draw(0, 0);
        Due.same("21: a long one", x.harm(0), 599 * 4000);
        Due.sound(x, Due.row(50, 60, 70, 80, 0));
        Due.map(x, "mark 5 10;");
        x.pieces(4, 1, 0);
        x.blowing(200, 3, 40);
        Due.same("12: seams", x.draw(1, 1), 3);
        // 80 meets 50 less .. : as by ringBehindTheEnd
        Due.same("21: its own seams", x.harm(0), x.seam(0, 2) + x.seam(1, 2) + x.seam(2, 2));
        Due.same("21: silence behind its own end", x.harm(3), 80);
        Due.same("16: no other seam", x.seam(3, 0), -5000);
        Due.same("14: its own length", x.length(), 10);
        Due.same("15: its own result", x.result(10), -5000);
    }

    /** "0 SEAMS: all UNLIKE together": the one at the last sample of 1,200, too. */
    private static void harmOfTheLastSeam() {
        // each piece begins at 0, the last one at 1, where 0 meets the 500 that ends the one ahead
        DrawnSounds x = made("still 11;blow 500 1;still 300;still 288;", "mark 1 1199;mark 600 1200;", 12, 1, 0);
        Due.same("12: seams", x.draw(0, 0), 109);
        Due.same("16: the last one", x.seam(108, 0), 1199);
        Due.same("16: the last one", x.seam(108, 2), 500);
        Due.same("21: all of them", x.harm(0), 109 * 500);
        x.way(12, 1, 0);
        x.way(13, 1, 0);
        Due.same("25: the last one is of the last part", x.bestOf(0, 0, 1), 1);
        Due.same("25: all others are of the first part", x.bestOf(0, 0, 0), 1);
    }

    /** The sound has 400 at 8 and 200 at another place; result 8, 9, 10, 11 are its 8, 9, 11, 12. */
    private static DrawnSounds withHalfAt(int place) {
        int[] row = new int[16];
        row[8] = 400;
        row[place] = 200;
        DrawnSounds x = made(Due.row(row), "mark 8 8;mark 16 12;", 4, 1, 0);
        x.draw(0, 0);
        return x;
    }

    /** "in how many of the 2 WIDTH SAMPLES from there on" */
    private static void smearInTwiceWidth() {
        // the place of 200; SMEAR by widths of 1, 2, 3, 4
        int[][] due = {{9, 0, 0, 0, 0}, {10, 0, 1, 1, 1}, {11, 0, 0, 0, 0}, {12, 0, 1, 0, 0}, {13, 0, 0, 1, 1},
            {14, 0, 0, 0, 1}, {15, 0, 0, 0, 1}, {7, 0, 0, 0, 0}};
        for (int[] one : due) {
            DrawnSounds x = withHalfAt(one[0]);
            for (int width = 1; width <= 4; width++) {
                x.blowing(300, 1, width);
                Due.same("19: one blow", x.blow(0, 1), -1);
                Due.same("21: smear of 200 at " + one[0] + " by width " + width, x.harm(1), one[width]);
            }
        }
    }

    /** "(below LENGTH)" */
    private static void smearBelowLength() {
        DrawnSounds x = made(Due.row(0, 0, 0, 0, 0, 0, 0, 0, 400, 200, 200, 0, 0, 0, 0, 0), "mark 9 9;", 4, 1, 0);
        Due.map(x, "mark 10 10;");
        Due.map(x, "mark 12 12;");
        x.blowing(300, 1, 2);
        x.draw(0, 0);
        Due.same("21: one of three is below 9", x.harm(1), 2);
        x.draw(0, 1);
        Due.same("21: two of three are below 10", x.harm(1), 1);
        x.draw(0, 2);
        Due.same("21: all are below 12", x.harm(1), 0);
    }

    /** "less in how many of the SOUND's from the BLOW on (as far as there are) it is; without sign" */
    private static void smearAsFarAsThereAre() {
        int[] row = new int[16];
        row[13] = 1000;
        row[15] = 2000;
        DrawnSounds x = made(Due.row(row), "mark 16 32;", 4, 1, 0);
        x.blowing(1900, 1, 40);
        x.draw(0, 0);
        Due.same("10: where", x.where(0, 15), 30);
        Due.same("15: the blow", x.result(30), 2000);
        Due.same("15: just half of it", x.result(31), 1000);
        Due.same("21: two there, one in the sound", x.harm(1), 1);
    }

    /** "for each BLOW of the SOUND that has a WHERE" */
    private static void smearIfThereIsAWhere() {
        DrawnSounds x = made(Due.row(0, 0, 0, 0, 0, 0, 0, 0, 400, 200, 0, 0), "mark 8 8;", 4, 1, 0);
        Due.map(x, "mark 9 9;");
        x.blowing(300, 1, 1);
        x.draw(0, 0);
        Due.same("10: no where", x.where(0, 8), -1);
        Due.same("21: it has none", x.harm(1), 0);
        x.draw(0, 1);
        Due.same("10: where", x.where(1, 8), 8);
        Due.same("21: it has one", x.harm(1), 1);
    }

    /** "the RESULT is half the BLOW or more" */
    private static void smearHalfOrMore() {
        // the blow, what stands two behind it in the sound alone, SMEAR
        int[][] due = {{400, 199, 0}, {400, 200, 1}, {401, 200, 0}, {401, 201, 1}, {399, 199, 0}, {399, 200, 1}};
        for (int[] one : due) {
            DrawnSounds x = made(Due.row(0, 0, 0, 0, 0, 0, 0, 0, one[0], 0, one[1], 0, 0, 0, 0, 0),
                "mark 8 8;mark 16 12;", 4, 1, 0);
            x.blowing(300, 1, 2);
            x.draw(0, 0);
            Due.same("21: " + one[1] + " of " + one[0], x.harm(1), one[2]);
            // and in the result alone: 12 of the sound stands at 11
            DrawnSounds y = made(Due.row(0, 0, 0, 0, 0, 0, 0, 0, one[0], 0, 0, 0, one[1], 0, 0, 0),
                "mark 8 8;mark 16 12;", 4, 1, 0);
            y.blowing(300, 1, 2);
            y.draw(0, 0);
            Due.same("21: " + one[1] + " of " + one[0] + " in the result", y.harm(1), one[2]);
        }
    }

    /** "(without signs)" */
    private static void smearWithoutSigns() {
        // 400 at 8, 200 and less 200 at 9 and 10; the one at 10 is not in the result
        DrawnSounds x = made("still 8;blow 400 1;blow 200 2;still 5;", "mark 8 8;mark 16 12;", 4, 1, 0);
        x.blowing(300, 1, 2);
        x.draw(0, 0);
        Due.same("21: less 200 is half of 400", x.harm(1), 1);
        // less 400 at 7 is a blow; behind it 0, which the result has no more
        DrawnSounds y = made("still 4;tone 4 400 4;still 8;", "mark 8 8;", 4, 1, 0);
        y.blowing(300, 1, 1);
        y.draw(0, 0);
        Due.same("19: it is a blow", y.blow(0, 1), 7);
        Due.same("21: 0 is not half of less 400", y.harm(1), 0);
    }

    private static DrawnSounds doubled() {
        // 800 at 20; drawn it stands at 35 and 38, PLACES 17 and 19
        DrawnSounds x = made("still 20;blow 800 1;still 19;", "mark 40 80;", 8, 2, 0);
        x.draw(0, 0);
        return x;
    }

    /** "how many BLOWS the RESULT has more than the SOUND, 0 at least" */
    private static void doubledNotBelowZero() {
        DrawnSounds x = doubled();
        x.blowing(200, 3, 2);
        Due.same("20: two", x.blows(), 2);
        Due.same("21: one more", x.harm(2), 1);
        x.blowing(200, 3, 3);
        Due.same("20: one", x.blows(), 1);
        Due.same("21: none more", x.harm(2), 0);
        DrawnSounds y = made(Due.row(0, 0, 0, 0, 0, 900, 0, 0, 0, 900), "mark 5 5;", 4, 1, 0);
        y.draw(0, 0);
        y.blowing(200, 3, 2);
        Due.same("20: none", y.blows(), 0);
        Due.same("21: fewer is 0", y.harm(2), 0);
        Due.same("21: fewer is 0 counted, too", y.harm(4), 0);
    }

    /** "at each t at whose PLACE the SOUND has WIDTH SAMPLES of 0, from there on" */
    private static void ringWidthSamplesOfZero() {
        DrawnSounds x = doubled();
        int[][] due = {{1, 1600}, {2, 800}, {3, 800}, {4, 0}, {40, 0}};
        for (int[] one : due) {
            x.blowing(200, 3, one[0]);
            Due.same("21: ring by width " + one[0], x.harm(3), one[1]);
        }
    }

    /** "(0 behind its end)" */
    private static void ringBehindTheEnd() {
        // drawn 50 60 70 80 70 80 0 70 80 0; at 8 and 9 PLACE is 4, the last sample
        DrawnSounds x = made(Due.row(50, 60, 70, 80, 0), "mark 5 10;", 4, 1, 0);
        x.draw(0, 0);
        Due.result("12: drawn", x, 50, 60, 70, 80, 70, 80, 0, 70, 80, 0);
        for (int width : new int[] {1, 2, 40}) {
            x.blowing(200, 3, width);
            Due.same("21: ring by width " + width, x.harm(3), 80);
        }
        DrawnSounds y = made(Due.row(50, 60, 70, 80, 1), "mark 5 10;", 4, 1, 0);
        y.draw(0, 0);
        Due.same("21: 1 is no 0", y.harm(3), 0);
    }

    /** "the RESULT, without signs, together" */
    private static void ringWithoutSigns() {
        // 5 at 1, less 5 at 3 and 9; PLACES 0, 0 and 2, where the sound has a 0
        DrawnSounds x = made("tone 4 5 4;still 16;", "mark 20 80;", 8, 1, 0);
        x.draw(0, 0);
        x.blowing(200, 3, 1);
        int[] due = {0, 5, 0, -5, 0, 0, 0, 0, 0, -5, 0, 0};
        for (int t = 0; t < due.length; t++) {
            Due.same("15: drawn " + t, x.result(t), due[t]);
        }
        Due.same("21: ring", x.harm(3), 5 + 5 + 5);
    }

    /** "COUNTED: each times what it counts for (0 to 999; 1, 100, 500, 1 at first), together" */
    private static void countedTogether() {
        DrawnSounds x = doubled();
        x.blowing(200, 3, 2);
        int[] harms = {0, 1, 1, 800};
        int[] first = {1, 100, 500, 1};
        for (int what = 0; what <= 3; what++) {
            Due.same("21: harm " + what, x.harm(what), harms[what]);
        }
        Due.same("21: counted at first", x.harm(4), 1400);
        for (int what = 0; what <= 3; what++) {
            Due.same("22: what it did", x.weigh(what, 0), first[what]);
        }
        Due.same("21: nothing counts", x.harm(4), 0);
        for (int what = 0; what <= 3; what++) {
            Due.same("22: 0", x.weigh(what, 999), 0);
            Due.same("21: " + what + " alone", x.harm(4), 999L * harms[what]);
            Due.same("22: 999", x.weigh(what, 0), 999);
        }
    }

    /** "1,000,000,000 at most" */
    private static void countedAtMost() {
        // each piece is 0, 2,000, 0, less 2,000: at 599 seams 0 and less 2,000 meet 0 and 2,000
        DrawnSounds x = made("tone 4 2000 300;tone 4 2000 300;", "mark 1 1199;mark 600 1200;", 4, 2, 0);
        x.blowing(2047, 20, 1);
        Due.same("12: seams", x.draw(0, 0), 599);
        Due.same("21: seams", x.harm(0), 599 * 4000);
        Due.same("21: ring: 2,000 at 1", x.harm(3), 2000);
        for (int what = 0; what <= 3; what++) {
            x.weigh(what, 0);
        }
        x.weigh(0, 417);
        Due.same("21: below it", x.harm(4), 999132000);
        x.weigh(3, 433);
        Due.same("21: just below it", x.harm(4), 999998000);
        x.weigh(3, 434);
        Due.same("21: just that", x.harm(4), 1000000000);
        x.weigh(3, 435);
        Due.same("21: just above it", x.harm(4), 1000000000);
        x.weigh(0, 999);
        x.weigh(3, 999);
        Due.same("21: beyond 32 bits", x.harm(4), 1000000000);
        bestAtMost(x);
    }

    /** Two WAYS beyond 1,000,000,000 are alike, so the first one is best. */
    private static void bestAtMost(DrawnSounds x) {
        x.way(4, 2, 0);
        x.way(5, 2, 0);
        x.pieces(5, 2, 0);
        x.draw(0, 0);
        Due.same("21: the second has less harm", x.harm(0) < 599 * 4000 ? 1 : 0, 1);
        Due.same("21: and as much counted", x.harm(4), 1000000000);
        Due.same("24: the first of alike ones", x.best(0, 0), 0);
        Due.same("25: not counted", x.bestOf(0, 0, 0), 1);
    }

    /** "What a HARM (0 to 3) counts for: what it did. IllegalArgumentException: another one, or v." */
    private static void weighLimits() {
        DrawnSounds x = new DrawnSounds();
        int[][] wrong = {{-1, 5}, {4, 5}, {LEAST, 5}, {MOST, 5}, {0, -1}, {0, 1000}, {3, -1}, {3, 1000}, {1, LEAST}, {2, MOST}};
        for (int[] one : wrong) {
            Due.refused("22: " + one[0] + " " + one[1], x, Due.WRONG, () -> x.weigh(one[0], one[1]));
        }
        int[] first = {1, 100, 500, 1};
        for (int what = 0; what <= 3; what++) {
            Due.same("22: as at first", x.weigh(what, 999), first[what]);
        }
        Due.thrown("22: refused", Due.WRONG, () -> x.weigh(3, 1000));
        for (int what = 0; what <= 3; what++) {
            Due.same("22: the most", x.weigh(what, 0), 999);
            Due.same("22: the least", x.weigh(what, 7), 0);
        }
    }

    /** "WAYS, 4 at most, are PIECES"; "its number; -1: there are 4" */
    private static void fourWays() {
        DrawnSounds x = new DrawnSounds();
        for (int k = 0; k < 4; k++) {
            Due.same("23: a way", x.way(4 + k, 1, k), k);
            Due.same("55: ways", x.count(3), k + 1);
        }
        Due.unchanged("23: a fifth one", x, -1, () -> x.way(4, 1, 0));
        Due.refused("23: none such comes first", x, Due.WRONG, () -> x.way(3, 1, 0));
        Due.refused("23: none such comes first", x, Due.WRONG, () -> x.way(4, 3, 0));
        Due.refused("23: none such comes first", x, Due.WRONG, () -> x.way(4, 1, 21));
    }

    /** "BEST WAY: by which COUNTED of DRAWN is least, of these the first" */
    private static void bestIsTheFirstOfAlikeOnes() {
        DrawnSounds x = made("tone 8 80 40;", "mark 40 44;", 16, 4, 3);
        x.way(8, 2, 0);
        Due.same("24: the only one", x.best(0, 0), 0);
        x.way(8, 2, 0);
        Due.same("24: the first of two alike", x.best(0, 0), 0);
        x.way(8, 2, 1);
        x.way(8, 2, 8);
        x.pieces(8, 2, 1);
        x.draw(0, 0);
        int near = x.harm(4);
        x.pieces(8, 2, 8);
        x.draw(0, 0);
        Due.same("21: less harm by seeking farther", x.harm(4) < near ? 1 : 0, 1);
        Due.same("24: the last one", x.best(0, 0), 3);
        for (int what = 0; what <= 3; what++) {
            x.weigh(what, 0);
        }
        Due.same("24: nothing counts: the first of four alike", x.best(0, 0), 0);
    }

    /** "NONE: there are none." */
    private static void bestWithoutWays() {
        DrawnSounds x = made("still 15;", "mark 16 20;", 16, 4, 3);
        Due.unchanged("24: none", x, -1, () -> x.best(0, 0));
        Due.unchanged("25: none", x, -1, () -> x.bestOf(0, 0, 0));
        Due.refused("25: no such part all the same", x, Due.WRONG, () -> x.bestOf(0, 0, 1));
        Due.refused("24: no such sound all the same", x, Due.NO_SOUND, () -> x.best(1, 0));
        Due.refused("24: no such map all the same", x, Due.NO_MAP, () -> x.best(0, 1));
    }

    /** "IllegalStateException: for some WAY." */
    private static void bestForSomeWay() {
        DrawnSounds x = made("still 20;", "mark 20 30;", 64, 4, 3);
        x.way(4, 1, 0);
        x.way(20, 1, 0);
        Due.same("24: just as many as the second asks for", x.best(0, 0), 0);
        Due.same("25: just as many as the second asks for", x.bestOf(0, 0, 0), 0);
        x.way(19, 1, 0);
        x.way(21, 1, 0);
        Due.refused("24: fewer than the fourth asks for", x, Due.UNFIT, () -> x.best(0, 0));
        Due.refused("25: fewer than the fourth asks for", x, Due.UNFIT, () -> x.bestOf(0, 0, 0));
        Due.sound(x, "still 21;");
        Due.same("24: enough for all", x.best(1, 0), 0);
        Due.same("25: enough for all", x.bestOf(1, 0, 0), 0);
    }

    /** "(the PIECES, the RESULT stay)" */
    private static void bestLeavesPiecesAndResult() {
        DrawnSounds x = made("tone 9 90 40;", "mark 40 50;", 10, 3, 2);
        x.way(8, 2, 0);
        x.way(16, 8, 20);
        int best = x.best(0, 0);
        x.draw(0, 0);
        Due.unchanged("24: drawn stays", x, best, () -> x.best(0, 0));
        Due.unchanged("25: drawn stays", x, x.bestOf(0, 0, 0), () -> x.bestOf(0, 0, 0));
        int seams = x.count(2);
        Due.same("12: by the same pieces", x.draw(0, 0), seams);
        x.sing(0, 0, 9, 9);
        Due.unchanged("24: sung stays", x, best, () -> x.best(0, 0));
        Due.same("21: sung stays", x.harm(0), -1);
        Due.same("11: the pieces stay", x.pieces(16, 4, 3), 10);
    }

    /** "(between two marks of the MAP that follow; r from the first T on, ahead of the second)" */
    private static void partsBetweenMarks() {
        // at 4 and behind PLACE is one more: by 5, 1 the seam at 4 meets 0 and 100, by 6, 1 the one at 5 100 and 100
        DrawnSounds x = made(Due.row(0, 0, 0, 0, 0, 100, 100, 100, 100, 100, 100, 100, 100, 100, 100, 100),
            "mark 5 4;mark 9 8;mark 10 9;", 5, 1, 0);
        x.draw(0, 0);
        Due.same("16: r", x.seam(0, 0), 4);
        Due.same("16: unlike at 4", x.seam(0, 2), 100);
        Due.same("16: unlike at 8", x.seam(1, 2), 0);
        x.pieces(6, 1, 0);
        x.draw(0, 0);
        Due.same("16: r", x.seam(0, 0), 5);
        Due.same("16: unlike at 5", x.seam(0, 2), 0);
        x.way(5, 1, 0);
        x.way(6, 1, 0);
        Due.same("25: ahead of 4 they are alike", x.bestOf(0, 0, 0), 0);
        Due.same("25: from 4 on, ahead of 8, the second is better", x.bestOf(0, 0, 1), 1);
        Due.same("25: from 8 on they are alike", x.bestOf(0, 0, 2), 0);
        Due.same("24: of all the second is better", x.best(0, 0), 1);
        lastOfAPart();
    }

    /** The seam just ahead of the second T is still of the part. */
    private static void lastOfAPart() {
        // PLACE is t up to 4, then t and 3: by 5, 1 seams at 4, 8; by 6, 1 at 5
        DrawnSounds x = made(Due.row(0, 0, 0, 0, 0, 0, 0, 0, 100, 100, 100, 100, 100, 100, 100, 100),
            "mark 4 4;mark 8 5;mark 11 8;", 6, 1, 0);
        x.draw(0, 0);
        Due.same("16: unlike at 5", x.seam(0, 2), 100);
        x.pieces(5, 1, 0);
        x.draw(0, 0);
        Due.same("16: just one seam", x.count(2), 1);
        Due.same("16: unlike at 4", x.seam(0, 2), 0);
        x.way(6, 1, 0);
        x.way(5, 1, 0);
        Due.same("25: 5 is not of the second part", x.bestOf(0, 0, 1), 0);
        Due.same("25: 5 is of the third part", x.bestOf(0, 0, 2), 1);
        // PLACE of 5 is 6 here, where 0 meets 100; the second T is 6
        DrawnSounds y = made(Due.row(0, 0, 0, 0, 0, 0, 100, 0, 0, 0, 0, 0, 0, 0, 0, 0),
            "mark 4 4;mark 9 6;mark 11 8;", 6, 1, 0);
        y.way(6, 1, 0);
        y.way(5, 1, 0);
        y.draw(0, 0);
        Due.same("9: PLACE of 5", y.place(0, 5), 6);
        Due.same("16: unlike at 5", y.seam(0, 2), 100);
        Due.same("25: 5 is the last of the second part", y.bestOf(0, 0, 1), 1);
        Due.same("25: it is not of the third part", y.bestOf(0, 0, 2), 0);
    }

    /** "BEST OF A PART (from 0 on)"; "IllegalArgumentException: no such PART" */
    private static void partsThatThereAre() {
        StringBuilder twelve = new StringBuilder();
        for (int k = 1; k <= 12; k++) {
            twelve.append("mark ").append(k).append(' ').append(2 * k).append(';');
        }
        DrawnSounds x = made("still 16;", twelve.toString(), 4, 1, 0);
        Due.map(x, "mark 1 1;");
        x.way(4, 1, 0);
        Due.same("25: the first of twelve", x.bestOf(0, 0, 0), 0);
        Due.same("25: the last of twelve", x.bestOf(0, 0, 11), 0);
        Due.same("25: the only one", x.bestOf(0, 1, 0), 0);
        for (int part : new int[] {-1, 12, LEAST, MOST}) {
            Due.refused("25: part " + part, x, Due.WRONG, () -> x.bestOf(0, 0, part));
        }
        Due.refused("25: a second one of one", x, Due.WRONG, () -> x.bestOf(0, 1, 1));
    }

    /** "by which UNLIKE of SEAMS there is least together, of these the first" */
    private static void bestOfTheFirstOfAlikeOnes() {
        DrawnSounds x = made("tone 8 80 40;", "mark 40 44;", 16, 4, 3);
        x.way(8, 2, 0);
        x.way(8, 2, 0);
        x.way(8, 2, 8);
        x.way(8, 2, 8);
        Due.same("25: the first of the better ones", x.bestOf(0, 0, 0), 2);
        Due.map(x, "mark 1 1;mark 40 44;");
        Due.same("25: no seams at all", x.bestOf(0, 1, 0), 0);
        DrawnSounds y = made("tone 8 80 40;", "mark 40 44;", 16, 4, 3);
        y.way(8, 2, 0);
        y.way(8, 2, 0);
        y.way(8, 2, 0);
        y.way(8, 2, 8);
        Due.same("25: the last of four", y.bestOf(0, 0, 0), 3);
        Due.same("25: the first of the better ones", x.bestOf(0, 1, 1), 2);
        x.weigh(0, 0);
        Due.same("25: whatever counts", x.bestOf(0, 1, 1), 2);
    }

    /** "Of several refusals of one call the first in the order of throws" */
    private static void refusalsInTheirOrder() {
        for (int none : new int[] {-1, 1, LEAST, MOST}) {
            DrawnSounds x = made("still 20;", "mark 21 30;", 16, 4, 3);
            x.way(4, 1, 0);
            Due.refused("24: no such sound", x, Due.NO_SOUND, () -> x.best(none, none));
            Due.refused("24: no such map", x, Due.NO_MAP, () -> x.best(0, none));
            Due.refused("25: no such sound", x, Due.NO_SOUND, () -> x.bestOf(none, none, none));
            Due.refused("25: no such map", x, Due.NO_MAP, () -> x.bestOf(0, none, none));
            Due.refused("25: no such part", x, Due.WRONG, () -> x.bestOf(0, 0, none));
            Due.refused("24: the map asks for more", x, Due.UNFIT, () -> x.best(0, 0));
            Due.refused("25: the map asks for more", x, Due.UNFIT, () -> x.bestOf(0, 0, 0));
        }
    }
}
