/**
 * The boundary cases of CROSSINGS, PERIOD, HUMS, MEANT, UNDONE, WOBBLE and STEADY, and of
 * promises 33 to 38 and 47: one method for each sentence that names one.
 */
public final class EdgesSpeedTest {
    private static final int LEAST = Integer.MIN_VALUE;
    private static final int MOST = Integer.MAX_VALUE;

    public static void main(String[] args) {
        crossingsFromBelowZero();
        crossingsFromOneToTheLast();
        noSuchCrossing();
        periodIsCut();
        periodWithoutIntervals();
        humLimits();
        sixHums();
        meantIsTheFirstOfAlikeOnes();
        rivalOfTheOthers();
        meantOfNothing();
        meantRefusals();
        undoneIsCut();
        undoneUpTo1200();
        undoLimits();
        undoRefusals();
        wobbleOfFewerThanTwo();
        wobbleUpToHalf();
        wobbleByPairs();
        wobbleTheLeastOfAlikeOnes();
        swings();
        wobbleRefusals();
        steadyOfTwo();
        steadyEachQth();
        steadyTheLastOneAlways();
        steadyIsCut();
        steadyAllSamples();
        steadyRefusals();
        Due.end();
    }

    private static DrawnSounds made(String sound) {
        DrawnSounds x = new DrawnSounds();
        Due.sound(x, sound);
        return x;
    }

    private static void crossings(String text, int... due) {
        DrawnSounds x = made(text);
        for (int k = 0; k <= due.length; k++) {
            Due.same("33: crossing " + k + " of " + text, x.crossing(0, k), k < due.length ? due[k] : -1);
        }
    }

    /** "with SAMPLE k 0 or above and the one ahead below 0" */
    private static void crossingsFromBelowZero() {
        crossings("blow 9 2;still 1;", 2);
        crossings("blow 9 2;blow 1 1;", 2);
        crossings("blow 9 3;", 2);
        crossings("blow 9 2;blow 1 2;blow 1 2;still 2;", 2, 4, 6);
        crossings("blow 9 1;still 2;blow 9 1;");
        crossings("still 4;");
        // up from less 80 to less 40 is none
        crossings("tone 8 80 9;", 8);
        crossings("tone 8 80 8;");
        // from 0 to less than 0 is none, from there to 0 is
        crossings("tone 4 1 5;", 4);
    }

    /** "k (1 or more)" */
    private static void crossingsFromOneToTheLast() {
        crossings("blow 9 1;");
        crossings("blow 9 2;");
        crossings("still 1;");
        crossings("tone 4 5 5;", 4);
        // the first draw of 0 is less 1
        crossings("hiss 1 1 0;still 1;", 1);
        crossings("hiss 1 1 0;");
        crossings("tone 4 5 4;");
        crossings("hum 4 5;still 1;");
        DrawnSounds x = made("tone 4 5 300;tone 4 5 297;");
        Due.same("33: the last of 600", x.crossing(0, 148), 596);
        Due.same("33: no more", x.crossing(0, 149), -1);
        // as many as sixteen blows can bring: each second sample of 352
        StringBuilder all = new StringBuilder();
        for (int k = 0; k < 16; k++) {
            all.append("blow 2000 22;");
        }
        DrawnSounds y = made(all.toString());
        Due.same("33: the first of 175", y.crossing(0, 0), 2);
        Due.same("33: the last of 175", y.crossing(0, 174), 350);
        Due.same("33: no more", y.crossing(0, 175), -1);
    }

    /** "The k-th CROSSING of a SOUND; NONE." */
    private static void noSuchCrossing() {
        DrawnSounds x = made("tone 4 5 9;");
        Due.same("33: the last one", x.crossing(0, 1), 8);
        for (int k : new int[] {-1, 2, LEAST, MOST}) {
            Due.same("33: crossing " + k, x.crossing(0, k), -1);
        }
        for (int none : new int[] {-1, 1, LEAST, MOST}) {
            Due.refused("33: sound " + none, x, Due.NO_SOUND, () -> x.crossing(none, 0));
            Due.refused("34: sound " + none, x, Due.NO_SOUND, () -> x.period(none));
        }
    }

    /** "100 times all INTERVALS together by how many (cut)" */
    private static void periodIsCut() {
        Due.same("34: one interval", made("tone 4 5 9;").period(0), 400);
        Due.same("34: 4, 4 and 5", made("tone 4 5 12;tone 5 5 6;").period(0), 433);
        Due.same("34: 4, 5 and 5", made("tone 4 5 8;tone 5 5 11;").period(0), 466);
        Due.same("34: 2 alone", made("blow 9 4;blow 1 1;").period(0), 200);
        // what stands ahead of the first one and behind the last one does not count
        Due.same("34: ends", made("still 50;tone 60 90 60;tone 7 5 8;still 90;").period(0), 700);
    }

    /** "NONE: no INTERVALS." */
    private static void periodWithoutIntervals() {
        Due.same("34: no crossing", made("tone 4 5 4;").period(0), -1);
        Due.same("34: one crossing", made("tone 4 5 8;").period(0), -1);
        Due.same("34: two crossings", made("tone 4 5 9;").period(0), 400);
        Due.same("34: silence", made("still 9;").period(0), -1);
        Due.same("34: one sample", made("still 1;").period(0), -1);
    }

    /** "HUMS, 6 at most, are PERIODS that could be (hundredths, 400 to 6,000)" */
    private static void humLimits() {
        DrawnSounds x = made("tone 8 80 40;");
        Due.same("35: the least", x.hum(400), 1);
        Due.same("35: the greatest", x.hum(6000), 2);
        for (int period : new int[] {399, 6001, 0, -400, LEAST, MOST}) {
            Due.refused("35: " + period, x, Due.WRONG, () -> x.hum(period));
        }
    }

    /** "how many there are; -1: there are 6" */
    private static void sixHums() {
        DrawnSounds x = made("tone 8 80 40;");
        for (int k = 1; k <= 6; k++) {
            Due.same("35: hum " + k, x.hum(400), k);
            Due.same("55: hums", x.count(5), k);
        }
        Due.unchanged("35: a seventh one", x, -1, () -> x.hum(800));
        Due.refused("35: a wrong one comes first", x, Due.WRONG, () -> x.hum(399));
        Due.refused("35: a wrong one comes first", x, Due.WRONG, () -> x.hum(6001));
        Due.same("36: it is not there", x.meant(0, 0), 0);
        Due.same("36: nor is it a rival", x.meant(0, 1), 0);
    }

    private static DrawnSounds hums(int... periods) {
        // PERIOD 800
        DrawnSounds x = made("tone 8 80 40;");
        for (int period : periods) {
            x.hum(period);
        }
        return x;
    }

    /** "that of HUMS nearest to the PERIOD of a SOUND, of these the first" */
    private static void meantIsTheFirstOfAlikeOnes() {
        Due.same("36: the only one", hums(6000).meant(0, 0), 0);
        Due.same("36: 799 and 801", hums(6000, 799, 801).meant(0, 0), 1);
        Due.same("36: 801 and 799", hums(6000, 801, 799).meant(0, 0), 1);
        Due.same("36: 802 and 799", hums(6000, 802, 799).meant(0, 0), 2);
        Due.same("36: the same twice", hums(800, 800).meant(0, 0), 0);
        Due.same("36: just that", hums(799, 801, 800).meant(0, 0), 2);
        Due.same("36: the last of six", hums(6000, 6000, 6000, 6000, 6000, 5999).meant(0, 0), 5);
    }

    /** "RIVAL: by how much farther the next nearest one is" */
    private static void rivalOfTheOthers() {
        Due.same("36: ahead of it", hums(790, 800).meant(0, 1), 10);
        Due.same("36: behind it", hums(800, 790).meant(0, 1), 10);
        Due.same("36: of two alike", hums(799, 801).meant(0, 1), 0);
        Due.same("36: the same twice", hums(800, 800).meant(0, 1), 0);
        Due.same("36: the nearest of the others", hums(400, 810, 830, 6000).meant(0, 1), 20);
        Due.same("36: on the other side", hums(805, 780, 6000).meant(0, 1), 15);
        Due.same("36: the last of six", hums(6000, 6000, 6000, 800, 6000, 5999).meant(0, 1), 5199);
    }

    /** "NONE: no HUMS, no PERIOD, or (RIVAL) just one." */
    private static void meantOfNothing() {
        for (int what = 0; what <= 1; what++) {
            Due.same("36: no hums " + what, hums().meant(0, what), -1);
            DrawnSounds x = hums(700, 900);
            Due.sound(x, "tone 8 80 16;");
            Due.same("36: no period " + what, x.meant(1, what), -1);
            DrawnSounds y = made("still 9;");
            Due.same("36: neither " + what, y.meant(0, what), -1);
        }
        Due.same("36: just one", hums(800).meant(0, 0), 0);
        Due.same("36: no rival of one", hums(800).meant(0, 1), -1);
    }

    /** Promise 36: the exceptions "in the order of throws", ahead of NONE */
    private static void meantRefusals() {
        for (DrawnSounds x : new DrawnSounds[] {hums(), hums(800, 900)}) {
            for (int what : new int[] {-1, 2, LEAST, MOST}) {
                Due.refused("36: what " + what, x, Due.WRONG, () -> x.meant(0, what));
                Due.refused("36: no such sound comes first", x, Due.NO_SOUND, () -> x.meant(1, what));
                Due.refused("36: no such sound comes first", x, Due.NO_SOUND, () -> x.meant(-1, what));
            }
        }
    }

    private static void undone(String sound, int period, int length) {
        DrawnSounds x = made(sound);
        Due.same("37: " + sound + " by " + period, x.undo(0, period), 0);
        Due.same("8: one mark", x.told(0, 0), 1);
        Due.same("8: " + sound + " by " + period, x.told(0, 1), length);
        Due.same("8: all samples", x.told(0, 2), x.size(0));
    }

    /** "all SAMPLES to that many times a told PERIOD by its own (cut, ..)" */
    private static void undoneIsCut() {
        undone("tone 8 80 40;", 800, 40);
        undone("tone 8 80 40;", 819, 40);
        undone("tone 8 80 40;", 820, 41);
        undone("tone 8 80 40;", 799, 39);
        undone("tone 8 80 40;", 400, 20);
        undone("tone 8 80 40;", 6000, 300);
        // 590 from one to the other: 600 times 400 by 59,000
        undone("blow 9 2;still 300;still 287;blow 9 2;still 9;", 400, 4);
    }

    /** "(.., 1 to 1,200)" */
    private static void undoneUpTo1200() {
        String most = "tone 4 80 300;tone 4 80 300;";
        undone(most, 799, 1198);
        undone(most, 800, 1200);
        undone(most, 801, 1200);
        undone(most, 6000, 1200);
    }

    /** "IllegalArgumentException: the PERIOD told (400 to 6,000)." */
    private static void undoLimits() {
        for (int period : new int[] {399, 6001, 0, -400, LEAST, MOST}) {
            DrawnSounds x = made("tone 8 80 40;");
            Due.refused("37: " + period, x, Due.WRONG, () -> x.undo(0, period));
            Due.refused("37: no such sound comes first", x, Due.NO_SOUND, () -> x.undo(1, period));
            Due.refused("37: no such sound comes first", x, Due.NO_SOUND, () -> x.undo(-1, period));
        }
    }

    /** "-1: there are 5; -2: no PERIOD"; "-1 ahead of -2" */
    private static void undoRefusals() {
        DrawnSounds x = made("tone 8 80 40;");
        Due.sound(x, "tone 8 80 16;");
        Due.unchanged("37: no period", x, -2, () -> x.undo(1, 800));
        Due.refused("37: a wrong one comes first", x, Due.WRONG, () -> x.undo(1, 399));
        for (int k = 0; k < 5; k++) {
            Due.same("37: map " + k, x.undo(0, 800), k);
        }
        Due.unchanged("37: a sixth one", x, -1, () -> x.undo(0, 800));
        Due.unchanged("37: a sixth one without period", x, -1, () -> x.undo(1, 800));
        Due.refused("37: a wrong one comes first", x, Due.WRONG, () -> x.undo(0, 399));
    }

    /** A sound whose INTERVALS are just these, 4 to 60 each, 14 at most. */
    private static DrawnSounds intervals(int... each) {
        StringBuilder text = new StringBuilder("tone 4 9 4;");
        for (int one : each) {
            text.append("tone ").append(one).append(" 90 ").append(one).append(';');
        }
        DrawnSounds x = made(text.append("still 1;").toString());
        int at = 4;
        Due.same("33: the first crossing", x.crossing(0, 0), at);
        for (int k = 0; k < each.length; k++) {
            at += each[k];
            Due.same("33: crossing " + (k + 1), x.crossing(0, k + 1), at);
        }
        Due.sound(x, "tone 4 9 30;");
        Due.same("33: another sound's", x.crossing(1, 6), 28);
        return x;
    }

    /** "NONE: fewer than 2 INTERVALS." */
    private static void wobbleOfFewerThanTwo() {
        for (int what = 0; what <= 1; what++) {
            Due.same("38: silence " + what, made("still 9;").wobble(0, what), -1);
            Due.same("38: none " + what, intervals().wobble(0, what), -1);
            Due.same("38: one " + what, intervals(9).wobble(0, what), -1);
        }
        Due.same("38: two", intervals(9, 4).wobble(0, 0), 1);
        Due.same("38: two", intervals(9, 4).wobble(0, 1), 5);
    }

    /** "of turns of 1 to half of all INTERVALS (cut)" */
    private static void wobbleUpToHalf() {
        Due.same("38: half of three is one", intervals(4, 8, 4).wobble(0, 0), 1);
        Due.same("38: half of four is two", intervals(4, 8, 4, 8).wobble(0, 0), 2);
        Due.same("38: half of five is two", intervals(4, 4, 9, 4, 4).wobble(0, 0), 1);
        Due.same("38: half of six is three", intervals(4, 4, 9, 4, 4, 9).wobble(0, 0), 3);
        Due.same("38: half of fourteen is seven",
            intervals(4, 9, 5, 20, 7, 13, 30, 4, 9, 5, 20, 7, 13, 30).wobble(0, 0), 7);
        Due.same("38: half of thirteen is less",
            intervals(4, 9, 5, 20, 7, 13, 30, 4, 9, 5, 20, 7, 13).wobble(0, 0) <= 6 ? 1 : 0, 1);
    }

    /** "by how many such pairs there are, is least (fractions)" */
    private static void wobbleByPairs() {
        // by 1: 2, 1 and 2; by 2: 1 and 3
        Due.same("38: 5 by 3 is less than 4 by 2", intervals(10, 12, 11, 9).wobble(0, 0), 1);
        // by 1: 2, 1, 2; by 2: 1, 1
        Due.same("38: 2 by 2 is less than 5 by 3", intervals(10, 12, 11, 13).wobble(0, 0), 2);
        // by 1: 9 by 5, by 2: 7 by 4, by 3: 5 by 3, each one less than the one ahead
        Due.same("38: 5 by 3 is less than 7 by 4", intervals(4, 4, 4, 8, 4, 5).wobble(0, 0), 3);
    }

    /** "of these the least" */
    private static void wobbleTheLeastOfAlikeOnes() {
        // by 1: 2, 1, 0; by 2: 1, 1
        Due.same("38: 3 by 3 is as much as 2 by 2", intervals(10, 12, 11, 11).wobble(0, 0), 1);
        Due.same("38: all alike", intervals(7, 7, 7, 7, 7, 7).wobble(0, 0), 1);
    }

    /** "SWING: the greatest INTERVAL less the least." */
    private static void swings() {
        int[][] due = {{7, 7, 0}, {7, 8, 1}, {8, 7, 1}, {60, 4, 56}, {4, 60, 56}};
        for (int[] one : due) {
            Due.same("38: swing of " + one[0] + " and " + one[1], intervals(one[0], one[1]).wobble(0, 1), one[2]);
        }
        Due.same("38: the greatest first", intervals(9, 7, 6, 5, 6).wobble(0, 1), 4);
        Due.same("38: the greatest last", intervals(5, 7, 6, 4, 9).wobble(0, 1), 5);
        Due.same("38: the least last", intervals(5, 9, 6, 4).wobble(0, 1), 5);
        Due.same("38: within", intervals(6, 9, 4, 7).wobble(0, 1), 5);
    }

    /** Promise 38: the exceptions "in the order of throws", ahead of NONE */
    private static void wobbleRefusals() {
        DrawnSounds x = made("still 9;");
        for (int what : new int[] {-1, 2, LEAST, MOST}) {
            Due.refused("38: what " + what, x, Due.WRONG, () -> x.wobble(0, what));
            Due.refused("38: no such sound comes first", x, Due.NO_SOUND, () -> x.wobble(1, what));
        }
    }

    private static void marks(String what, DrawnSounds x, int[]... due) {
        Due.same("47: " + what, x.steady(0), 0);
        Due.same("8: " + what + ": marks", x.told(0, 0), due.length + 1);
        Due.same("8: " + what + ": length", x.told(0, 1), x.size(0));
        Due.same("8: " + what + ": all samples", x.told(0, 2), x.size(0));
        for (int[] mark : due) {
            Due.same("9: " + what + ": mark at " + mark[1], x.place(0, mark[1]), mark[0]);
        }
    }

    private static int[] mark(int from, int to) {
        return new int[] {from, to};
    }

    /** "of CROSSINGS (c of them, 2 at least)" */
    private static void steadyOfTwo() {
        DrawnSounds none = made("tone 4 9 4;");
        Due.unchanged("47: no crossing", none, -2, () -> none.steady(0));
        DrawnSounds one = made("tone 4 9 8;");
        Due.unchanged("47: one crossing", one, -2, () -> one.steady(0));
        marks("two crossings", made("tone 4 9 9;"), mark(4, 4), mark(8, 8));
        marks("two crossings ahead of much", made("blow 9 2;blow 5 2;still 30;"), mark(2, 2), mark(4, 4));
    }

    /** c crossings: the first is 4, then by 4, but for the last: 10 behind the one ahead. */
    private static DrawnSounds crossingsOf(int c) {
        return made("tone 4 9 " + 4 * (c - 1) + ";tone 10 9 10;still 1;");
    }

    /** Marks at these crossings, each to 4 and (4 c plus 2) times what it is by (c less 1). */
    private static void steady(int c, int... chosen) {
        int[][] due = new int[chosen.length][];
        for (int k = 0; k < chosen.length; k++) {
            boolean last = chosen[k] == c - 1;
            int from = last ? 4 * c + 6 : 4 * (chosen[k] + 1);
            due[k] = mark(from, 4 + (4 * c + 2) * chosen[k] / (c - 1));
        }
        DrawnSounds x = crossingsOf(c);
        Due.same("33: as many", x.crossing(0, c - 1), 4 * c + 6);
        Due.same("33: as many", x.crossing(0, c), -1);
        marks("of " + c, x, due);
    }

    /** "each q-th behind it, q being 1 and (c less 1) by 11 (cut)" */
    private static void steadyEachQth() {
        steady(3, 0, 1, 2);
        steady(10, 0, 1, 2, 3, 4, 5, 6, 7, 8, 9);
        steady(11, 0, 1, 2, 3, 4, 5, 6, 7, 8, 9, 10);
        // c less 1 is 11, 12, 21: q is 2; 22: q is 3; 33: q is 4
        steady(12, 0, 2, 4, 6, 8, 10, 11);
        steady(13, 0, 2, 4, 6, 8, 10, 12);
        steady(21, 0, 2, 4, 6, 8, 10, 12, 14, 16, 18, 20);
        steady(23, 0, 3, 6, 9, 12, 15, 18, 21, 22);
        steady(34, 0, 4, 8, 12, 16, 20, 24, 28, 32, 33);
    }

    /** "but the last one always (in place of the one ahead if there would be more than 11)" */
    private static void steadyTheLastOneAlways() {
        steady(20, 0, 2, 4, 6, 8, 10, 12, 14, 16, 18, 19);
        steady(22, 0, 2, 4, 6, 8, 10, 12, 14, 16, 18, 21);
        steady(31, 0, 3, 6, 9, 12, 15, 18, 21, 24, 27, 30);
        steady(32, 0, 3, 6, 9, 12, 15, 18, 21, 24, 27, 31);
        steady(33, 0, 3, 6, 9, 12, 15, 18, 21, 24, 27, 32);
    }

    /** "the first and (the last less the first) times how many-th it is by (c less 1) (cut)" */
    private static void steadyIsCut() {
        // crossings at 4, 9, 17, 21: 17 by 3
        marks("4, 9, 17, 21", made("tone 4 9 4;tone 5 9 5;tone 8 9 8;tone 4 9 4;still 1;"),
            mark(4, 4), mark(9, 9), mark(17, 15), mark(21, 21));
    }

    /** "then one from all SAMPLES to as many behind the last mark as in the SOUND" */
    private static void steadyAllSamples() {
        DrawnSounds x = made("tone 4 9 9;");
        marks("the last crossing is the last sample", x, mark(4, 4), mark(8, 8));
        DrawnSounds y = made("still 300;tone 4 9 9;still 291;");
        marks("600 samples", y, mark(304, 304), mark(308, 308));
        Due.same("9: the last place", y.place(0, 599), 599);
        Due.same("9: no more", y.place(0, 600), -1);
    }

    /** "-1: there are 5; -2: fewer than 2 CROSSINGS"; "-1 ahead of -2" */
    private static void steadyRefusals() {
        DrawnSounds x = made("tone 4 9 9;");
        Due.sound(x, "tone 4 9 8;");
        for (int k = 0; k < 5; k++) {
            Due.same("47: map " + k, x.steady(0), k);
        }
        Due.unchanged("47: a sixth one", x, -1, () -> x.steady(0));
        Due.unchanged("47: a sixth one of one crossing", x, -1, () -> x.steady(1));
        for (int none : new int[] {-1, 2, LEAST, MOST}) {
            Due.refused("47: no such sound", x, Due.NO_SOUND, () -> x.steady(none));
        }
    }
}
