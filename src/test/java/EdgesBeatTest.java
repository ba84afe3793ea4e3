/**
 * The boundary cases of GRID, BEAT, ONTO, LOOP, JOINED, RESAMPLED and MOVED, and of promises 39
 * to 43 and 48: one method for each sentence that names one.
 */
public final class EdgesBeatTest {
    private static final int LEAST = Integer.MIN_VALUE;
    private static final int MOST = Integer.MAX_VALUE;

    public static void main(String[] args) {
        stepsFrom4To200();
        startsBelowTheStep();
        offIsTheLesserOne();
        beatByFractions();
        theGreatestStepAndTheLeastStart();
        beatOfFewerThanTwo();
        beatRefusals();
        numbersAtHalfAStep();
        numbersAheadOfTheStart();
        ontoLimits();
        ontoAboveZero();
        ontoMarksThatRise();
        ontoElevenMarks();
        ontoUpTo1200();
        ontoRefusals();
        loopLimits();
        loopWithOverStillInIt();
        loopAtLeastSoLong();
        loopTheLongestOfAlikeOnes();
        loopOfNone();
        joinedFromZeroToSeek();
        joinedNotAheadOfItsBegin();
        joinedTheLeastO();
        joinedAsInDrawing();
        joinedOfOverAtLeast();
        joinedUpTo600();
        joinRefusals();
        shiftLimits();
        resampledUpTo600();
        resampledOfWide();
        resampledBehindItsEnd();
        resampledCutTowardZero();
        movedBackToAsMany();
        movedByNothing();
        shiftRefusals();
        filmLimits();
        filmUpTo1200();
        filmRefusals();
        Due.end();
    }

    /** Samples of 900 at these places alone, and so many in all. */
    private static DrawnSounds blowsAt(int size, int... places) {
        StringBuilder text = new StringBuilder();
        int at = 0;
        for (int place : places) {
            still(text, place - at);
            text.append("blow 900 1;");
            at = place + 1;
        }
        still(text, size - at);
        DrawnSounds x = new DrawnSounds();
        Due.sound(x, text.toString());
        Due.same("6: as many as meant", x.size(0), size);
        return x;
    }

    private static void still(StringBuilder text, int many) {
        for (int rest = many; rest > 0; rest -= 300) {
            text.append("still ").append(Math.min(300, rest)).append(';');
        }
    }

    private static void beat(String what, DrawnSounds x, int p, int a, int off) {
        Due.same("39: p of " + what, x.beat(0, 0), p);
        Due.same("39: a of " + what, x.beat(0, 1), a);
        Due.same("39: off of " + what, x.beat(0, 2), off);
    }

    /** "A GRID of step p (4 to 200)" */
    private static void stepsFrom4To200() {
        beat("200 apart", blowsAt(220, 5, 205), 200, 5, 0);
        beat("201 apart", blowsAt(220, 5, 206), 67, 5, 0);
        beat("400 apart", blowsAt(420, 5, 405), 200, 5, 0);
        DrawnSounds x = blowsAt(20, 1, 5, 13);
        x.blowing(200, 1, 3);
        beat("4 and 8 apart", x, 4, 1, 0);
        // by 2 and 3 it would be 0
        DrawnSounds y = blowsAt(20, 0, 4, 10);
        y.blowing(200, 1, 3);
        beat("4 and 6 apart", y, 200, 4, 10);
        beat("9 and 15 apart", blowsAt(40, 0, 9, 24), 200, 9, 24);
    }

    /** "and start a (0 to p less 1)" */
    private static void startsBelowTheStep() {
        beat("from 0 on", blowsAt(60, 0, 20, 40), 20, 0, 0);
        beat("from 19 on", blowsAt(60, 19, 39, 59), 20, 19, 0);
        beat("from 20 on", blowsAt(70, 20, 40, 60), 20, 0, 0);
        beat("from 199 on", blowsAt(400, 199, 399), 200, 199, 0);
        beat("from 399 on", blowsAt(600, 399, 599), 200, 199, 0);
    }

    /** "what (BLOW less a) leaves by p (0 to p less 1), or p less that, the lesser one; together" */
    private static void offIsTheLesserOne() {
        // 99, 199 and 299 by 100 from 99 on; 0 is 1 behind -1, not 99 ahead of it
        beat("0, 99, 199, 299", blowsAt(310, 0, 99, 199, 299), 100, 99, 1);
        beat("1, 100, 200, 300", blowsAt(310, 1, 100, 200, 300), 100, 0, 1);
    }

    /** "BEAT: the GRID for which OFF by p is least (fractions)" */
    private static void beatByFractions() {
        // 3 by 200 is less than 1 by 4
        DrawnSounds x = blowsAt(20, 10, 13);
        x.blowing(200, 1, 2);
        beat("3 apart", x, 200, 10, 3);
        DrawnSounds y = blowsAt(20, 10, 12);
        y.blowing(200, 1, 1);
        beat("2 apart", y, 200, 10, 2);
    }

    /** "of these the greatest p, of these the least a" */
    private static void theGreatestStepAndTheLeastStart() {
        beat("40 apart", blowsAt(60, 10, 50), 40, 10, 0);
        beat("120 and 80 apart", blowsAt(220, 10, 130, 210), 40, 10, 0);
        // 199, 0, 1 and 2 are as near to both
        DrawnSounds x = blowsAt(210, 199, 202);
        x.blowing(200, 1, 2);
        beat("199 and 202", x, 200, 0, 3);
        DrawnSounds y = blowsAt(210, 196, 199);
        y.blowing(200, 1, 2);
        beat("196 and 199", y, 200, 196, 3);
    }

    /** "NONE: fewer than 2 BLOWS." */
    private static void beatOfFewerThanTwo() {
        for (int what = 0; what <= 2; what++) {
            Due.same("39: none, " + what, blowsAt(20).beat(0, what), -1);
            Due.same("39: one, " + what, blowsAt(20, 7).beat(0, what), -1);
        }
        Due.same("39: two", blowsAt(20, 7, 16).beat(0, 0), 9);
        // 8 apart the second one is none
        Due.same("39: two too near", blowsAt(20, 7, 15).beat(0, 0), -1);
    }

    /** "IllegalArgumentException: another what." */
    private static void beatRefusals() {
        for (DrawnSounds x : new DrawnSounds[] {blowsAt(20, 7), blowsAt(20, 7, 16)}) {
            for (int what : new int[] {-1, 3, LEAST, MOST}) {
                Due.refused("39: what " + what, x, Due.WRONG, () -> x.beat(0, what));
                Due.refused("39: no such sound comes first", x, Due.NO_SOUND, () -> x.beat(1, what));
                Due.refused("39: no such sound comes first", x, Due.NO_SOUND, () -> x.beat(-1, what));
            }
        }
    }

    /** "NUMBER of a BLOW on it: (twice (BLOW less a) and p) by twice p (cut; ..)" */
    private static void numbersAtHalfAStep() {
        // blows at 13, 17 .., by 4 from 1 on; the first one is 2 behind 1, half a step: number 1
        DrawnSounds x = new DrawnSounds();
        Due.sound(x, "still 3;blow 9 1;still 8;tone 4 9 300;");
        x.blowing(9, 1, 3);
        beat("half a step", x, 4, 1, 2);
        Due.same("40: onto", x.onto(0, 10), 0);
        Due.same("9: the first one", x.place(0, 10), 3);
        Due.same("9: 13 is number 3, two more", x.place(0, 30), 13);
        Due.same("9: 17", x.place(0, 40), 17);
        // one sample behind 1, less than half: number 0
        DrawnSounds y = new DrawnSounds();
        Due.sound(y, "still 2;blow 9 1;still 9;tone 4 9 300;");
        y.blowing(9, 1, 3);
        beat("less than half a step", y, 4, 1, 1);
        Due.same("40: onto", y.onto(0, 10), 0);
        Due.same("9: the first one", y.place(0, 10), 2);
        Due.same("9: 13 is number 3, three more", y.place(0, 40), 13);
    }

    /** "(cut; BLOW less a may be below 0)" */
    private static void numbersAheadOfTheStart() {
        // by 100 from 99 on: (twice less 99 and 100) by 200 is less 98 by 200: number 0, as 99 is
        DrawnSounds x = blowsAt(310, 0, 99, 199, 299);
        beat("0, 99, 199, 299", x, 100, 99, 1);
        marks("number 0 twice", x, 10, 30 + 11, mark(99, 10), mark(199, 20), mark(299, 30));
        // the same one behind: by 100 from 0 on, 1 is number 0, 100 is number 1
        DrawnSounds y = blowsAt(310, 1, 100, 200, 300);
        beat("1, 100, 200, 300", y, 100, 0, 1);
        marks("numbers 0 to 3", y, 10, 40 + 10, mark(1, 10), mark(100, 20), mark(200, 30), mark(300, 40));
    }

    /** "ONTO a step q (1 to 200)" */
    private static void ontoLimits() {
        DrawnSounds x = blowsAt(60, 10, 38);
        Due.same("40: by 1", x.onto(0, 1), 0);
        Due.same("8: by 1", x.told(0, 1), 2 + 22);
        Due.same("40: by 200", x.onto(0, 200), 1);
        Due.same("8: by 200", x.told(1, 1), 400 + 22);
        for (int q : new int[] {0, 201, -1, LEAST, MOST}) {
            Due.refused("40: by " + q, x, Due.WRONG, () -> x.onto(0, q));
            Due.refused("40: no such sound comes first", x, Due.NO_SOUND, () -> x.onto(1, q));
            Due.refused("40: no such sound comes first", x, Due.NO_SOUND, () -> x.onto(-1, q));
        }
    }

    private static void marks(String what, DrawnSounds x, int q, int length, int[]... due) {
        int map = x.count(1);
        Due.same("40: " + what, x.onto(0, q), map);
        Due.same("8: " + what + ": marks", x.told(map, 0), due.length + 1);
        Due.same("8: " + what + ": length", x.told(map, 1), length);
        Due.same("8: " + what + ": all samples", x.told(map, 2), x.size(0));
        for (int[] mark : due) {
            Due.same("9: " + what + ": mark at " + mark[1], x.place(map, mark[1]), mark[0]);
        }
    }

    private static int[] mark(int from, int to) {
        return new int[] {from, to};
    }

    /** "for each BLOW, in order, above 0" */
    private static void ontoAboveZero() {
        marks("one at 0", blowsAt(50, 0, 20, 40), 7, 31, mark(20, 14), mark(40, 21));
        DrawnSounds x = blowsAt(50, 1, 21, 41);
        marks("one at 1", x, 7, 30, mark(1, 7), mark(21, 14), mark(41, 21));
        marks("the last at the end", blowsAt(41, 20, 40), 7, 15, mark(20, 7), mark(40, 14));
    }

    /** "if both are above those of the mark ahead" */
    private static void ontoMarksThatRise() {
        // by 200 from 12 on all three are number 0
        DrawnSounds x = blowsAt(40, 3, 12, 20);
        x.blowing(200, 1, 7);
        beat("3, 12, 20", x, 200, 12, 17);
        marks("alike numbers", x, 9, 46, mark(3, 9));
    }

    /** "and there are 11 at most" */
    private static void ontoElevenMarks() {
        // 1, 5, 9 .. by 4: eleven are up to 41, the twelfth is the end
        int[] sizes = {42, 46, 90};
        for (int size : sizes) {
            DrawnSounds x = new DrawnSounds();
            Due.sound(x, "tone 4 9 " + size + ";");
            x.blowing(9, 1, 3);
            int[][] due = new int[11][];
            for (int k = 0; k < 11; k++) {
                due[k] = mark(4 * k + 1, 6 * (k + 1));
            }
            marks("of " + size, x, 6, 66 + size - 41, due);
        }
        DrawnSounds y = new DrawnSounds();
        Due.sound(y, "tone 4 9 40;");
        y.blowing(9, 1, 3);
        Due.same("40: ten", y.onto(0, 6), 0);
        Due.same("8: ten and the end", y.told(0, 0), 11);
    }

    /** "or it would be longer than 1,200" */
    private static void ontoUpTo1200() {
        // six blows by 20: the last one to 6 times q, and what is behind it
        Due.same("40: just 1,200", blowsAt(400, 0, 20, 40, 60, 80, 100).onto(0, 150), 0);
        DrawnSounds x = blowsAt(401, 0, 20, 40, 60, 80, 100);
        Due.unchanged("40: 1,201", x, -2, () -> x.onto(0, 150));
        // the marks alone are beyond it
        DrawnSounds y = blowsAt(101, 0, 20, 40, 60, 80, 100);
        Due.same("40: 1,194 and one", y.onto(0, 199), 0);
        Due.same("8: 1,195", y.told(0, 1), 1195);
        Due.unchanged("40: 1,200 and one", y, -2, () -> y.onto(0, 200));
    }

    /** "-1: there are 5; -2: fewer than 2 BLOWS"; "-1 ahead of -2" */
    private static void ontoRefusals() {
        DrawnSounds x = blowsAt(60, 10, 38);
        Due.sound(x, "still 5;blow 900 1;");
        Due.sound(x, "still 5;");
        Due.unchanged("40: one blow", x, -2, () -> x.onto(1, 9));
        Due.unchanged("40: no blow", x, -2, () -> x.onto(2, 9));
        Due.refused("40: a wrong q comes first", x, Due.WRONG, () -> x.onto(1, 0));
        for (int k = 0; k < 5; k++) {
            Due.same("40: map " + k, x.onto(0, 9), k);
        }
        Due.unchanged("40: a sixth one", x, -1, () -> x.onto(0, 9));
        Due.unchanged("40: a sixth one of one blow", x, -1, () -> x.onto(1, 9));
        Due.refused("40: a wrong q comes first", x, Due.WRONG, () -> x.onto(0, 201));
    }

    private static DrawnSounds rows(int over, int... samples) {
        DrawnSounds x = new DrawnSounds();
        Due.sound(x, Due.row(samples));
        x.pieces(64, over, 20);
        return x;
    }

    private static void loop(String what, DrawnSounds x, int least, int from, int to, int sum) {
        Due.same("41: from of " + what, x.loop(0, least, 0), from);
        Due.same("41: to of " + what, x.loop(0, least, 1), to);
        Due.same("41: sum of " + what, x.loop(0, least, 2), sum);
    }

    /** "at least so many (1 to 600) long"; "IllegalArgumentException: how long, or what." */
    private static void loopLimits() {
        DrawnSounds x = rows(1, 5, 5);
        loop("1", x, 1, 0, 1, 0);
        loop("600", x, 600, -1, -1, -1);
        for (int least : new int[] {0, 601, -1, LEAST, MOST}) {
            Due.refused("41: at least " + least, x, Due.WRONG, () -> x.loop(0, least, 0));
        }
        for (int what : new int[] {-1, 3, LEAST, MOST}) {
            DrawnSounds one = rows(1, 5, 5);
            Due.refused("41: what " + what, one, Due.WRONG, () -> one.loop(0, 1, what));
            Due.refused("41: what " + what + " where there is none", one, Due.WRONG, () -> one.loop(0, 600, what));
            Due.refused("41: no such sound comes first", one, Due.NO_SOUND, () -> one.loop(1, 0, what));
            Due.refused("41: no such sound comes first", one, Due.NO_SOUND, () -> one.loop(-1, 0, what));
        }
        DrawnSounds y = new DrawnSounds();
        Due.sound(y, "still 300;still 300;");
        y.pieces(4, 1, 0);
        loop("600 samples", y, 599, 0, 599, 0);
        loop("600 samples", y, 600, -1, -1, -1);
    }

    /** "(with OVER SAMPLES from to on still in it)" */
    private static void loopWithOverStillInIt() {
        loop("the very last one", rows(1, 7, 1, 2, 3, 7), 1, 0, 4, 0);
        loop("the very last two", rows(2, 7, 8, 2, 3, 7, 8), 1, 0, 4, 0);
        // 7 at the end would be alike, and 0 behind it, but that is not in the sound
        loop("not the very last one", rows(2, 7, 0, 2, 9, 5, 7), 1, 2, 4, 3 + 2);
        loop("all in one", rows(3, 4, 4, 4, 4), 1, 0, 1, 0);
    }

    /** "at least so many long" */
    private static void loopAtLeastSoLong() {
        DrawnSounds x = rows(1, 7, 9, 7, 1, 3, 11);
        loop("2", x, 2, 0, 2, 0);
        // of 3 on: 7 and 1, 9 and 3, 7 and 11; 7 and 3, 9 and 11; 7 and 11
        loop("3", x, 3, 1, 5, 2);
        loop("4", x, 4, 1, 5, 2);
        loop("5", x, 5, 0, 5, 4);
        loop("6", x, 6, -1, -1, -1);
    }

    /** "is least; of these the longest, of these the first" */
    private static void loopTheLongestOfAlikeOnes() {
        loop("two by two", rows(1, 5, 6, 5, 6, 5, 6), 1, 0, 4, 0);
        loop("two by two, 5 at least", rows(1, 5, 6, 5, 6, 5, 6), 5, 0, 5, 1);
        loop("the first of the longest", rows(2, 1, 1, 1, 1, 1, 1, 9), 1, 0, 4, 0);
        loop("a shorter one with less", rows(1, 1, 50, 50, 3), 1, 1, 2, 0);
        loop("a later one with less", rows(1, 1, 5, 9, 20, 5), 1, 1, 4, 0);
    }

    /** "NONE: there is none." */
    private static void loopOfNone() {
        loop("one sample", rows(1, 5), 1, -1, -1, -1);
        loop("as many as over", rows(3, 5, 5, 5), 1, -1, -1, -1);
        loop("fewer than over", rows(8, 5, 5, 5), 1, -1, -1, -1);
        loop("one more than over", rows(3, 5, 6, 5, 5), 1, 0, 1, 2);
        loop("not as long", rows(3, 5, 6, 5, 5), 2, -1, -1, -1);
    }

    private static DrawnSounds two(int over, int seek, int[] first, int[] second) {
        DrawnSounds x = new DrawnSounds();
        Due.sound(x, Due.row(first));
        Due.sound(x, Due.row(second));
        x.pieces(64, over, seek);
        return x;
    }

    private static void joined(String what, DrawnSounds x, int... due) {
        Due.same("42: " + what, x.join(0, 1), 2);
        Due.samples("42: " + what, x, 2, due);
    }

    private static int[] row(int... samples) {
        return samples;
    }

    /** "begins OVER and o SAMPLES ahead of the first one's end, o from 0 to SEEK" */
    private static void joinedFromZeroToSeek() {
        int[] first = {1, 2, 3, 70, 40, 60, 9, 50};
        joined("o 0", two(1, 0, first, row(60, 5)), 1, 2, 3, 70, 40, 60, 9, 50, 5);
        joined("o up to 1", two(1, 1, first, row(60, 5)), 1, 2, 3, 70, 40, 60, 9, 50, 5);
        joined("o up to 2", two(1, 2, first, row(60, 5)), 1, 2, 3, 70, 40, 60, 5);
        joined("o up to 3", two(1, 3, first, row(40, 5)), 1, 2, 3, 70, 40, 5);
        joined("o up to 20", two(1, 20, first, row(1, 5)), 1, 5);
        DrawnSounds x = new DrawnSounds();
        Due.sound(x, "blow 500 1;still 20;");
        Due.sound(x, "blow 500 1;still 1;");
        x.pieces(64, 1, 19);
        Due.same("42: 20 ahead is too far for 19", x.join(0, 1), 2);
        Due.same("6: o 0", x.size(2), 20 + 2);
        x.pieces(64, 1, 20);
        Due.same("42: 20 ahead", x.join(0, 1), 3);
        Due.same("6: o 20", x.size(3), 2);
    }

    /** "(not ahead of its begin; ..)" */
    private static void joinedNotAheadOfItsBegin() {
        // two ahead of the end is the begin: 30, 44 and 30, 44
        joined("at the begin", two(2, 20, row(30, 44, 9, 9), row(30, 44, 7)), 30, 44, 7);
        // 0 ahead of the begin would be as alike
        joined("not ahead of it", two(2, 20, row(5, 9, 20), row(0, 5, 7)), 5, (9 + 5) / 2, 7);
        joined("just over", two(3, 20, row(1, 2, 3), row(0, 0, 0)), 1, (2 * 2) / 3, 3 / 3);
    }

    /** "so that UNLIKE of the OVER SAMPLES there is least, of these the least o" */
    private static void joinedTheLeastO() {
        joined("all alike", two(2, 3, row(5, 5, 5, 5, 5, 5), row(5, 5, 1)), 5, 5, 5, 5, 5, 5, 1);
        joined("o 1 and 3 alike", two(1, 3, row(9, 7, 9, 7, 9, 0), row(9, 1)), 9, 7, 9, 7, 9, 1);
        joined("o 1 and 2 as far", two(1, 2, row(9, 9, 3, 5, 0), row(4, 1)), 9, 9, 3, 5, 1);
    }

    /** "they are faded over as in DRAWING, and what the first one has behind them goes" */
    private static void joinedAsInDrawing() {
        joined("by quarters", two(4, 0, row(1, 100, 100, 100, 100), row(0, 0, 0, 0, 7)), 1, 100, 75, 50, 25, 7);
        joined("behind goes", two(2, 2, row(1, 2, 40, 40, 8, 9), row(40, 40, 7)), 1, 2, 40, 40, 7);
        DrawnSounds x = new DrawnSounds();
        Due.sound(x, "tone 4 5 4;");
        Due.sound(x, "still 2;");
        x.pieces(4, 2, 0);
        Due.same("42: cut toward 0", x.join(0, 1), 2);
        Due.samples("42: cut toward 0", x, 2, 0, 5, 0, -5 / 2);
    }

    /** "the second one has OVER at least"; "or one has fewer than OVER" */
    private static void joinedOfOverAtLeast() {
        joined("both just over", two(3, 0, row(6, 6, 6), row(6, 6, 6)), 6, 6, 6);
        DrawnSounds x = two(4, 0, row(6, 6, 6), row(6, 6, 6, 6));
        Due.unchanged("42: the first has one too few", x, -2, () -> x.join(0, 1));
        Due.unchanged("42: the second has one too few", x, -2, () -> x.join(1, 0));
        Due.unchanged("42: both have", x, -2, () -> x.join(0, 0));
        Due.same("42: none has", x.join(1, 1), 2);
    }

    /** "-2: longer than 600" */
    private static void joinedUpTo600() {
        DrawnSounds x = new DrawnSounds();
        Due.sound(x, "still 300;");
        Due.sound(x, "still 300;still 4;");
        Due.sound(x, "still 300;still 5;");
        Due.same("42: 600", x.join(0, 1), 3);
        Due.same("6: 600", x.size(3), 600);
        Due.unchanged("42: 601", x, -2, () -> x.join(0, 2));
        Due.unchanged("42: far more", x, -2, () -> x.join(3, 3));
        // by seeking farther it is no longer too long, where that is less unlike
        DrawnSounds y = new DrawnSounds();
        Due.sound(y, "still 300;blow 9 1;");
        Due.sound(y, "still 300;");
        y.pieces(4, 1, 1);
        Due.same("42: o 1", y.join(0, 1), 2);
        Due.same("6: 599", y.size(2), 599);
    }

    /** "-1: there are 5"; "-1 ahead of -2" */
    private static void joinRefusals() {
        DrawnSounds x = two(3, 0, row(6, 6, 6), row(6, 6));
        for (int none : new int[] {-1, 2, LEAST, MOST}) {
            Due.refused("42: no such first one", x, Due.NO_SOUND, () -> x.join(none, 0));
            Due.refused("42: no such second one", x, Due.NO_SOUND, () -> x.join(0, none));
        }
        for (int k = 2; k < 5; k++) {
            Due.same("42: sound " + k, x.join(0, 0), k);
        }
        Due.unchanged("42: a sixth one", x, -1, () -> x.join(0, 0));
        Due.unchanged("42: a sixth one of fewer than over", x, -1, () -> x.join(0, 1));
        Due.refused("42: no such sound comes first", x, Due.NO_SOUND, () -> x.join(0, 5));
    }

    /** "RESAMPLED by n and d (1 to 9 each)" */
    private static void shiftLimits() {
        int[][] right = {{1, 1}, {9, 9}, {1, 9}, {9, 1}, {8, 9}, {9, 8}};
        for (int[] one : right) {
            DrawnSounds x = new DrawnSounds();
            Due.sound(x, "still 60;");
            x.pieces(6, 1, 0);
            Due.same("43: " + one[0] + " " + one[1], x.shift(0, one[0], one[1]), 11);
            Due.same("14: " + one[0] + " " + one[1], x.length(), 60);
        }
        int[][] wrong = {{0, 1}, {10, 1}, {1, 0}, {1, 10}, {-1, 1}, {1, -1}, {LEAST, 1}, {MOST, 1}, {1, LEAST}, {1, MOST}};
        for (int[] one : wrong) {
            DrawnSounds x = new DrawnSounds();
            Due.sound(x, "still 60;");
            Due.refused("43: " + one[0] + " " + one[1], x, Due.WRONG, () -> x.shift(0, one[0], one[1]));
            Due.refused("43: no such sound comes first", x, Due.NO_SOUND, () -> x.shift(1, one[0], one[1]));
        }
    }

    /** "SAMPLES times d, by n (cut; ..)"; "or more than 600" */
    private static void resampledUpTo600() {
        DrawnSounds x = new DrawnSounds();
        Due.sound(x, "still 300;still 234;");
        Due.sound(x, "still 300;still 235;");
        Due.sound(x, "still 300;still 300;");
        Due.sound(x, "still 300;");
        x.pieces(4, 1, 0);
        Due.same("43: 534 by 9 by 8 is 600", x.shift(0, 8, 9), 177);
        Due.same("14: as many as the sound has", x.length(), 534);
        Due.refused("43: 535 by 9 by 8 is 601", x, Due.UNFIT, () -> x.shift(1, 8, 9));
        Due.same("43: 600", x.shift(2, 1, 1), 199);
        Due.refused("43: 675", x, Due.UNFIT, () -> x.shift(2, 8, 9));
        Due.same("43: 300 by 2", x.shift(3, 1, 2), 99);
        Due.refused("43: 1,200", x, Due.UNFIT, () -> x.shift(2, 1, 2));
        Due.refused("43: 1,800", x, Due.UNFIT, () -> x.shift(2, 1, 3));
        Due.refused("43: 5,400", x, Due.UNFIT, () -> x.shift(2, 1, 9));
    }

    /** "RESAMPLED has fewer SAMPLES than WIDE" */
    private static void resampledOfWide() {
        DrawnSounds x = new DrawnSounds();
        Due.sound(x, "still 16;");
        Due.sound(x, "still 1;");
        Due.sound(x, "still 32;");
        x.pieces(7, 1, 0);
        Due.same("43: 64 by 9 is 7 of 7", x.shift(0, 9, 4), 2);
        x.pieces(8, 1, 0);
        Due.refused("43: 7 of 8", x, Due.UNFIT, () -> x.shift(0, 9, 4));
        Due.refused("43: 0 by 9 is 1", x, Due.UNFIT, () -> x.shift(1, 9, 1));
        x.pieces(4, 1, 0);
        Due.same("43: 4 of 4", x.shift(1, 1, 4), 0);
        Due.same("14: back to one", x.length(), 1);
        Due.refused("43: 3 of 4", x, Due.UNFIT, () -> x.shift(1, 1, 3));
        x.pieces(64, 4, 3);
        Due.same("43: 64 of 64", x.shift(2, 1, 2), 0);
        Due.refused("43: 62 of 64", x, Due.UNFIT, () -> x.shift(2, 1, 1));
    }

    /** "0 behind its end" */
    private static void resampledBehindItsEnd() {
        // by 2 and 3: 1 67 80 40 18 14 30 60 116 200 76 30 60 80, and 60: two thirds of 90 and one of 0
        DrawnSounds x = new DrawnSounds();
        Due.sound(x, Due.row(1, 100, 40, 7, 30, 75, 200, 15, 60, 90));
        x.pieces(4, 2, 2);
        Due.same("43: seams", x.shift(0, 2, 3), 4);
        // the third piece goes on with 30 and 60 to the end, the fourth meets that: 80, 60 and 76, 30
        int[][] seams = {{2, -1, 0}, {4, -2, 0}, {6, 2, 0}, {8, -2, 4 + 30}};
        for (int k = 0; k < 4; k++) {
            for (int what = 0; what <= 2; what++) {
                Due.same("16: seam " + k + " " + what, x.seam(k, what), seams[k][what]);
            }
        }
        Due.result("43: the end", x, 1, 67, 80, 40, 18, 14, 30, 60, 80, (60 + 30) / 2);
        // the same where a longer sound was, which an image has taken away
        DrawnSounds again = new DrawnSounds();
        again.image();
        Due.sound(again, "hum 4 1;blow 2000 1;".repeat(8) + "hiss 2000 300 1;");
        again.restore();
        Due.sound(again, Due.row(1, 100, 40, 7, 30, 75, 200, 15, 60, 90));
        again.pieces(4, 2, 2);
        again.shift(0, 2, 3);
        Due.result("43: 0 behind the end", again, 1, 67, 80, 40, 18, 14, 30, 60, 80, (60 + 30) / 2);
        DrawnSounds y = new DrawnSounds();
        Due.sound(y, Due.row(30, 60, 90, 90));
        y.pieces(8, 1, 0);
        y.shift(0, 1, 2);
        Due.result("43: all in one piece", y, 30, 45, 60, 75);
    }

    /** "(SAMPLE p times (d less r) and SAMPLE p and 1 times r) by d (cut toward 0; ..)" */
    private static void resampledCutTowardZero() {
        DrawnSounds x = new DrawnSounds();
        Due.sound(x, "blow 7 2;blow 5 2;");
        // 7 -7 5 -5 by halves: 7 0 -7 -1 5 0 -5 -2
        x.pieces(8, 1, 0);
        x.shift(0, 1, 2);
        Due.result("43: the first four", x, 7, 0, -7, -1);
        DrawnSounds y = new DrawnSounds();
        Due.sound(y, "tone 4 5 4;");
        y.pieces(5, 1, 0);
        y.shift(0, 3, 4);
        // 0, (0 and 15) by 4, (10 and 0) by 4 .. : 0 3 2 -1 -5
        Due.result("43: cut toward 0", y, 0, 3, 2, -1);
    }

    /** "and DRAWN by a MAP of one mark, back to as many as the SOUND has" */
    private static void movedBackToAsMany() {
        DrawnSounds x = new DrawnSounds();
        Due.sound(x, Due.row(10, 20, 30, 40, 50, 60, 70, 80));
        x.pieces(4, 1, 0);
        Due.same("43: seams", x.shift(0, 1, 2), 2);
        Due.same("14: as many", x.length(), 8);
        Due.same("55: seams", x.count(2), 2);
        Due.same("16: r", x.seam(0, 0), 3);
        Due.same("17: it may be kept", x.keep(), 1);
    }

    /** RESAMPLED by 1 and 1, all 600 are as they were: what comes is what is DRAWN by one mark. */
    private static void movedByNothing() {
        DrawnSounds x = new DrawnSounds();
        Due.sound(x, "hiss 2000 300 1;hiss 2000 300 2;");
        Due.map(x, "mark 600 600;");
        x.pieces(7, 2, 1);
        int seams = x.draw(0, 0);
        int[] drawn = new int[60];
        for (int k = 0; k < 60; k++) {
            drawn[k] = x.result(540 + k);
        }
        int harm = x.harm(0);
        Due.same("43: as many seams", x.shift(0, 1, 1), seams);
        for (int k = 0; k < 60; k++) {
            Due.same("43: as it was drawn at " + (540 + k), x.result(540 + k), drawn[k]);
        }
        Due.same("21: as unlike", x.harm(0), harm);
        Due.same("43: as many by 9 and 9", x.shift(0, 9, 9), seams);
        Due.same("21: as unlike", x.harm(0), harm);
    }

    /** Promise 43: the exceptions "in the order of throws" */
    private static void shiftRefusals() {
        DrawnSounds x = new DrawnSounds();
        Due.sound(x, "still 15;");
        Due.refused("43: fewer than wide", x, Due.UNFIT, () -> x.shift(0, 1, 1));
        Due.refused("43: n comes first", x, Due.WRONG, () -> x.shift(0, 0, 1));
        Due.refused("43: d comes first", x, Due.WRONG, () -> x.shift(0, 1, 10));
        for (int none : new int[] {-1, 1, LEAST, MOST}) {
            Due.refused("43: no such sound comes first", x, Due.NO_SOUND, () -> x.shift(none, 0, 0));
        }
    }

    /** "all SAMPLES to frames (1 to 1,200) of so many (1 to 99) each" */
    private static void filmLimits() {
        int[][] right = {{1, 1, 1}, {1200, 1, 1200}, {1, 99, 99}, {12, 99, 1188}};
        for (int[] one : right) {
            DrawnSounds x = new DrawnSounds();
            Due.sound(x, "still 7;");
            Due.same("48: " + one[0] + " of " + one[1], x.film(0, one[0], one[1]), 0);
            Due.same("8: one mark", x.told(0, 0), 1);
            Due.same("8: length", x.told(0, 1), one[2]);
            Due.same("8: all samples", x.told(0, 2), 7);
        }
        int[][] wrong = {{0, 1}, {1201, 1}, {1, 0}, {1, 100}, {-1, 1}, {1, -1}, {LEAST, 1}, {MOST, 1}, {1, LEAST}, {1, MOST},
            {MOST, MOST}};
        for (int[] one : wrong) {
            DrawnSounds x = new DrawnSounds();
            Due.sound(x, "still 7;");
            Due.refused("48: " + one[0] + " of " + one[1], x, Due.WRONG, () -> x.film(0, one[0], one[1]));
            Due.refused("48: no such sound comes first", x, Due.NO_SOUND, () -> x.film(1, one[0], one[1]));
        }
    }

    /** "-2: longer than 1,200" */
    private static void filmUpTo1200() {
        DrawnSounds x = new DrawnSounds();
        Due.sound(x, "still 7;");
        Due.same("48: 600 of 2", x.film(0, 600, 2), 0);
        Due.same("8: 1,200", x.told(0, 1), 1200);
        Due.same("48: 16 of 75", x.film(0, 16, 75), 1);
        Due.unchanged("48: 1,202", x, -2, () -> x.film(0, 601, 2));
        Due.unchanged("48: 1,206", x, -2, () -> x.film(0, 18, 67));
        Due.unchanged("48: the most", x, -2, () -> x.film(0, 1200, 99));
    }

    /** "-1: there are 5"; "-1 ahead of -2" */
    private static void filmRefusals() {
        DrawnSounds x = new DrawnSounds();
        Due.sound(x, "still 7;");
        for (int k = 0; k < 5; k++) {
            Due.same("48: map " + k, x.film(0, k + 1, 1), k);
        }
        Due.unchanged("48: a sixth one", x, -1, () -> x.film(0, 1, 1));
        Due.unchanged("48: a sixth one that is too long", x, -1, () -> x.film(0, 1200, 99));
        Due.refused("48: wrong ones come first", x, Due.WRONG, () -> x.film(0, 0, 1));
        for (int none : new int[] {-1, 1, LEAST, MOST}) {
            Due.refused("48: no such sound", x, Due.NO_SOUND, () -> x.film(none, 1, 1));
        }
    }
}
