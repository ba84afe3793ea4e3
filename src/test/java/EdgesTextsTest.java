/**
 * The boundary cases of the document's "Terms" up to MAPS and texts, and of promises 1 to 10:
 * one method for each sentence that names one.
 */
public final class EdgesTextsTest {
    private static final int LEAST = Integer.MIN_VALUE;
    private static final int MOST = Integer.MAX_VALUE;

    public static void main(String[] args) {
        answersUpToThe512thCall();
        aNewObjectHasNothing();
        fiveSounds();
        oneToSixHundredSamples();
        samplesAreBounded();
        textsOf300Bytes();
        sixteenClauses();
        numbersOfClauses();
        wavesAreCutTowardZero();
        blowsHalve();
        hissStaysWithin();
        humsComeToAllThereAre();
        fiveMaps();
        twelveMarks();
        numbersOfMarks();
        placeEnds();
        placeAtMarks();
        whereEnds();
        lengthsAskedFor();
        numbersAreDigits();
        wordsAreSmallLetters();
        blanksAre32();
        theFirstFaultFromTheLeft();
        faultsAtTheLength();
        nothingThere();
        ofOnePlaceTheLeastFault();
        nothingOfAFaultyMapStays();
        nothingOfAFaultySoundStays();
        feedHighestByteFirst();
        feedUpTo300();
        soundTakesTheFirstBytes();
        soundOfTooManyBytes();
        aSixthSoundIsNotRead();
        mapTakesTheFirstBytes();
        mapOfTooManyBytes();
        aSixthMapIsNotRead();
        faultOfTheLatestText();
        noSuchSound();
        noSuchSample();
        noSuchMap();
        Due.end();
    }

    /** "An object is used for at most 512 calls after it has been made." */
    private static void answersUpToThe512thCall() {
        DrawnSounds x = new DrawnSounds();
        Due.sound(x, "tone 8 80 40;");
        Due.map(x, "mark 40 40;");
        x.pieces(8, 2, 8);
        for (int call = 6; call <= 511; call++) {
            Due.same("call " + call, x.draw(0, 0), 6);
        }
        Due.same("call 512", x.result(37), -40);
    }

    /** "No SOUNDS, no MAPS." */
    private static void aNewObjectHasNothing() {
        DrawnSounds x = new DrawnSounds();
        for (int what = 0; what <= 7; what++) {
            Due.same("1: count " + what, x.count(what), 0);
        }
        Due.thrown("1: no sound", Due.NO_SOUND, () -> x.size(0));
        Due.thrown("1: no map", Due.NO_MAP, () -> x.told(0, 0));
        Due.same("1: no result", x.length(), 0);
        Due.same("1: no sample of it", x.result(0), -5000);
        Due.same("1: no seam", x.seam(0, 0), -5000);
        Due.same("1: no fault", x.fault(), -1);
        Due.same("1: no image", x.restore(), -1);
    }

    /** "SOUNDS, numbered from 0 on, 5 at most": by each way that makes one. */
    private static void fiveSounds() {
        DrawnSounds x = new DrawnSounds();
        Due.same("3: the first one", Due.sound(x, "still 4;"), 0);
        Due.same("42: the second one", x.join(0, 0), 1);
        Due.map(x, "mark 4 4;");
        x.pieces(4, 1, 0);
        x.draw(0, 0);
        Due.same("17: the third one", x.keep(), 2);
        Due.same("3: the fourth one", Due.sound(x, "still 4;"), 3);
        Due.same("3: the fifth one", Due.sound(x, "still 7;"), 4);
        Due.same("6: the fifth one", x.size(4), 7);
        Due.unchanged("42: a sixth one", x, -1, () -> x.join(0, 0));
        Due.unchanged("17: a sixth one", x, -1, () -> x.keep());
        Due.unchanged("3: a sixth one", x, -1, () -> x.sound(0));
        Due.thrown("6: a sixth one", Due.NO_SOUND, () -> x.size(5));
    }

    /** "rows of 1 to 600 SAMPLES": by each clause that brings some. */
    private static void oneToSixHundredSamples() {
        right("still 1;", 1);
        right("tone 4 1 1;", 1);
        right("blow 1 1;", 1);
        right("hiss 1 1 0;", 1);
        String most = "still 300;still 299;";
        right(most + "still 1;", 600);
        right(most + "tone 4 1 1;", 600);
        right(most + "blow 1 1;", 600);
        right(most + "hiss 1 1 0;", 600);
        right("still 1;still 299;still 300;", 600);
        wrong(most + "still 2;", 3, 26);
        wrong(most + "tone 4 1 2;", 3, 29);
        wrong(most + "blow 1 2;", 3, 27);
        wrong(most + "hiss 1 2 0;", 3, 27);
        wrong("still 1;still 300;still 300;", 3, 24);
        wrong("still 300;still 300;still 1;", 3, 26);
    }

    private static void right(String text, int size) {
        DrawnSounds x = new DrawnSounds();
        Due.same("3: " + text, Due.sound(x, text), 0);
        Due.same("5: " + text, x.fault(), -1);
        Due.same("6: " + text, x.size(0), size);
    }

    private static void wrong(String text, int fault, int at) {
        DrawnSounds x = new DrawnSounds();
        Due.same("3: " + text, Due.sound(x, text), fault - 10);
        Due.same("5: " + text, x.fault(), at);
        Due.same("55: nothing came of " + text, x.count(0), 0);
        Due.same("55: the tape is empty behind " + text, x.count(7), 0);
    }

    /** "SAMPLES (-2,047 to 2,047)"; a hum is "bounded". */
    private static void samplesAreBounded() {
        int[][] cases = {{46, 2046}, {47, 2047}, {48, 2047}, {2000, 2047}};
        for (int[] one : cases) {
            DrawnSounds x = new DrawnSounds();
            Due.sound(x, "tone 4 2000 4;hum 4 " + one[0] + ";");
            Due.samples("3: 2,000 and " + one[0], x, 0, 0, one[1], 0, -one[1]);
        }
        DrawnSounds x = new DrawnSounds();
        // by 8 the third one behind the first is 100 above 0: each hum is bounded by itself
        Due.sound(x, "tone 4 2000 4;hum 4 2000;hum 8 200;");
        Due.samples("3: bounded each time", x, 0, 0, 2047, 200, -1947);
    }

    /** "texts of up to 300 bytes": all of the tape may be one. */
    private static void textsOf300Bytes() {
        Due.same("3: no sign of a text ahead", behindATextOf(";", " ".repeat(13) + "still 1"), -9);
        Due.same("3: no number of a text ahead", behindATextOf("1;", " ".repeat(14) + "still "), -9);
        right("still 1;" + " ".repeat(292), 1);
        right(" ".repeat(292) + "still 1;", 1);
        right("still " + "0".repeat(291) + "10;", 10);
        wrong("still 1;" + " ".repeat(291) + "x", 1, 299);
        wrong("still" + " ".repeat(295), 1, 300);
        wrong(" ".repeat(300), 4, 300);
        wrong("s".repeat(300), 1, 0);
        rightMap("mark 1 1;" + " ".repeat(291), 1, 1, 1);
        rightMap(" ".repeat(291) + "mark 1 1;", 1, 1, 1);
        wrongMap("mark 1 1;" + " ".repeat(290) + "x", 1, 299);
        wrongMap("mark 1" + " ".repeat(294), 1, 300);
        wrongMap(" ".repeat(300), 4, 300);
    }

    /** What a text of 20 bytes is, where the tape was full of others ahead of it. */
    private static int behindATextOf(String others, String text) {
        DrawnSounds x = new DrawnSounds();
        Due.sound(x, others.repeat(300 / others.length()));
        Due.same("20 bytes", text.length(), 20);
        return Due.sound(x, text);
    }

    /** "{ CLAUSE ";" }, at most 16": hums count too. */
    private static void sixteenClauses() {
        String fifteen = "hum 4 1;".repeat(15);
        right(fifteen + "still 1;", 1);
        right("still 1;" + fifteen + "  ", 1);
        wrong(fifteen + "hum 4 1;still 1;", 3, 128);
        wrong("still 1;" + fifteen + "  hum 4 1;", 3, 130);
        // the seventeenth is too many at its first byte, whatever is wrong behind that
        wrong("still 1;" + fifteen + "still 0;", 3, 128);
        wrong("still 1;" + fifteen + "still", 3, 128);
    }

    /** "P 4 to 60, A 1 to 2,000, N 1 to 300, S 0 to 9,999." */
    private static void numbersOfClauses() {
        within("still ", 1, 300, ";");
        within("tone ", 4, 60, " 1 1;");
        within("tone 4 ", 1, 2000, " 1;");
        within("tone 4 1 ", 1, 300, ";");
        within("blow ", 1, 2000, " 1;");
        within("blow 1 ", 1, 300, ";");
        within("hiss ", 1, 2000, " 1 0;");
        within("hiss 1 ", 1, 300, " 0;");
        within("hiss 1 1 ", 0, 9999, ";");
        within("still 1;hum ", 4, 60, " 1;");
        within("still 1;hum 4 ", 1, 2000, ";");
    }

    private static void within(String ahead, int least, int most, String behind) {
        for (int n : new int[] {least, most}) {
            DrawnSounds x = new DrawnSounds();
            Due.same("3: " + ahead + n + behind, Due.sound(x, ahead + n + behind), 0);
        }
        if (least > 0) {
            wrong(ahead + (least - 1) + behind, 2, ahead.length());
        }
        wrong(ahead + (most + 1) + behind, 2, ahead.length());
        // numbers that would be right again if 32 or 64 bits wrapped
        wrong(ahead + (4294967296L + most) + behind, 2, ahead.length());
        wrong(ahead + "1844674407370955" + (1616 + least) + behind, 2, ahead.length());
        wrong(ahead + "-" + most + behind, 1, ahead.length());
    }

    /** "what k leaves by P"; "cut toward 0". */
    private static void wavesAreCutTowardZero() {
        DrawnSounds x = new DrawnSounds();
        Due.sound(x, "tone 5 3 6;");
        Due.samples("3: a wave of 5 and 3", x, 0, 0, 2, 1, -1, -2, 0);
        Due.sound(x, "tone 60 2000 300;");
        Due.same("3: at a quarter", x.sample(1, 15), 2000);
        Due.same("3: at three quarters", x.sample(1, 45), -2000);
        Due.same("3: the last of the first turn", x.sample(1, 59), -133);
        Due.same("3: the second turn", x.sample(1, 60), 0);
        Due.same("3: the second turn", x.sample(1, 61), 133);
        Due.same("3: the last one", x.sample(1, 299), -133);
    }

    /** "A by 2 to the power of k by 2 (both cut), less than 0 if k is odd" */
    private static void blowsHalve() {
        DrawnSounds x = new DrawnSounds();
        Due.sound(x, "blow 3 6;");
        Due.samples("3: a blow of 3", x, 0, 3, -3, 1, -1, 0, 0);
        Due.sound(x, "blow 2000 300;");
        int[][] due = {{0, 2000}, {1, -2000}, {2, 1000}, {19, -3}, {20, 1}, {21, -1}, {22, 0}, {23, 0},
            {62, 0}, {63, 0}, {64, 0}, {65, 0}, {128, 0}, {299, 0}};
        for (int[] one : due) {
            Due.same("3: a blow of 2,000 at " + one[0], x.sample(1, one[0]), one[1]);
        }
    }

    /** "DRAWS of twice A and 1 less A": from less A to A; "32 bits that wrap"; "bits 16 to 30" */
    private static void hissStaysWithin() {
        DrawnSounds x = new DrawnSounds();
        Due.sound(x, "hiss 1 60 0;");
        Due.sound(x, "hiss 2000 60 9999;");
        int[] seeds = {0, 9999};
        int[] loud = {1, 2000};
        for (int sound = 0; sound < 2; sound++) {
            long seed = seeds[sound];
            int least = 0;
            int most = 0;
            for (int k = 0; k < 60; k++) {
                seed = (seed * 1103515245L + 12345L) % 4294967296L;
                long due = seed / 65536 % 32768 % (2 * loud[sound] + 1) - loud[sound];
                Due.same("3: hiss " + loud[sound] + " at " + k, x.sample(sound, k), due);
                least = Math.min(least, x.sample(sound, k));
                most = Math.max(most, x.sample(sound, k));
            }
            Due.same("3: down to less A", least <= -loud[sound] * 9 / 10 ? 1 : 0, 1);
            Due.same("3: up to A", most >= loud[sound] * 9 / 10 ? 1 : 0, 1);
        }
        // "which first becomes": the seed itself gives nothing
        Due.same("3: the first of 0 is what 12,345 has there", x.sample(0, 0), 0 - 1);
    }

    /** "a WAVE comes to all there are, from the first on" */
    private static void humsComeToAllThereAre() {
        DrawnSounds x = new DrawnSounds();
        Due.sound(x, "hum 4 9;still 2;hum 4 5;still 2;");
        Due.samples("3: not to those behind", x, 0, 0, 5, 0, 0);
        Due.sound(x, "still 3;still 3;hum 4 5;");
        Due.samples("3: through all clauses", x, 1, 0, 5, 0, -5, 0, 5);
    }

    /** "MAPS, numbered from 0 on, 5 at most": by each way that makes one. */
    private static void fiveMaps() {
        DrawnSounds x = new DrawnSounds();
        Due.sound(x, "still 4;tone 4 900 12;");
        x.blowing(900, 1, 1);
        x.part(5, 1, 5, 5);
        Due.same("4: the first one", Due.map(x, "mark 1 1;"), 0);
        Due.same("28: the second one", x.planMap(5), 1);
        Due.same("37: the third one", x.undo(0, 400), 2);
        Due.same("40: the fourth one", x.onto(0, 9), 3);
        Due.same("47: the fifth one", x.steady(0), 4);
        Due.same("8: the fifth one", x.told(4, 2), 16);
        Due.unchanged("48: a sixth one", x, -1, () -> x.film(0, 1, 1));
        Due.unchanged("47: a sixth one", x, -1, () -> x.steady(0));
        Due.unchanged("40: a sixth one", x, -1, () -> x.onto(0, 9));
        Due.unchanged("37: a sixth one", x, -1, () -> x.undo(0, 400));
        Due.unchanged("28: a sixth one", x, -1, () -> x.planMap(5));
        Due.unchanged("4: a sixth one", x, -1, () -> x.map(0));
        Due.thrown("8: a sixth one", Due.NO_MAP, () -> x.told(5, 0));
        DrawnSounds y = new DrawnSounds();
        Due.sound(y, "still 4;");
        Due.same("48: a film is the first one", y.film(0, 1, 1), 0);
    }

    private static String marks(int many) {
        StringBuilder text = new StringBuilder();
        for (int k = 1; k <= many; k++) {
            text.append("mark ").append(k).append(' ').append(k).append(';');
        }
        return text.toString();
    }

    /** ""mark" F T, each with ";", 1 to 12 of them" */
    private static void twelveMarks() {
        rightMap(marks(1), 1, 1, 1);
        rightMap(marks(12), 12, 12, 12);
        rightMap(marks(12) + "  ", 12, 12, 12);
        wrongMap(marks(13), 3, marks(12).length());
        wrongMap(marks(12) + "  mark 13 13;", 3, marks(12).length() + 2);
        // the thirteenth is too many at its first byte, whatever is wrong behind that
        wrongMap(marks(12) + "mark 12 13;", 3, marks(12).length());
        wrongMap(marks(12) + "mark", 3, marks(12).length());
        wrongMap("mark 1 1", 1, 8);
        wrongMap("mark 1 1 mark 2 2;", 1, 9);
    }

    private static void rightMap(String text, int many, int length, int last) {
        DrawnSounds x = new DrawnSounds();
        Due.same("4: " + text, Due.map(x, text), 0);
        Due.same("5: " + text, x.fault(), -1);
        Due.same("8: marks of " + text, x.told(0, 0), many);
        Due.same("8: length of " + text, x.told(0, 1), length);
        Due.same("8: last f of " + text, x.told(0, 2), last);
    }

    private static void wrongMap(String text, int fault, int at) {
        DrawnSounds x = new DrawnSounds();
        Due.same("4: " + text, Due.map(x, text), fault - 10);
        Due.same("5: " + text, x.fault(), at);
        Due.same("55: nothing came of " + text, x.count(1), 0);
        Due.same("55: the tape is empty behind " + text, x.count(7), 0);
    }

    /** "F 1 to 600, T 1 to 1,200, both above those ahead." */
    private static void numbersOfMarks() {
        rightMap("mark 1 1;", 1, 1, 1);
        rightMap("mark 600 1200;", 1, 1200, 600);
        rightMap("mark 599 1199;mark 600 1200;", 2, 1200, 600);
        wrongMap("mark 0 1;", 2, 5);
        wrongMap("mark 601 1;", 2, 5);
        wrongMap("mark 1 0;", 2, 7);
        wrongMap("mark 1 1201;", 2, 7);
        wrongMap("mark 4294967297 1;", 2, 5);
        wrongMap("mark 1 4294967297;", 2, 7);
        rightMap("mark 5 7;mark 6 8;", 2, 8, 6);
        wrongMap("mark 5 7;mark 5 8;", 2, 14);
        wrongMap("mark 5 7;mark 4 8;", 2, 14);
        wrongMap("mark 5 7;mark 6 7;", 2, 16);
        wrongMap("mark 5 7;mark 6 6;", 2, 16);
        // T alone may be lower than F, and F than T
        rightMap("mark 5 1;mark 6 2;", 2, 2, 6);
        wrongMap("mark 600 5;mark 601 6;", 2, 16);
        wrongMap("mark 5 1200;mark 6 1201;", 2, 19);
    }

    /** "PLACE of t (0 to the last T, that out)"; "NONE: it has none such" */
    private static void placeEnds() {
        DrawnSounds x = new DrawnSounds();
        Due.map(x, "mark 1 1;");
        Due.map(x, "mark 600 1200;");
        Due.map(x, "mark 600 1;");
        Due.map(x, "mark 1 1200;");
        int[][] due = {{0, 0, 0}, {0, 1, -1}, {1, 0, 0}, {1, 1, 0}, {1, 2, 1}, {1, 1199, 599}, {1, 1200, -1},
            {2, 0, 0}, {2, 1, -1}, {3, 1199, 0}, {3, 1200, -1}};
        for (int[] one : due) {
            Due.same("9: map " + one[0] + ", place of " + one[1], x.place(one[0], one[1]), one[2]);
        }
        for (int map = 0; map < 4; map++) {
            Due.same("9: below 0", x.place(map, -1), -1);
            Due.same("9: far below 0", x.place(map, LEAST), -1);
            Due.same("9: far beyond", x.place(map, MOST), -1);
        }
    }

    /** "between the two marks around it (0, 0 is ahead of all)"; "(cut)" */
    private static void placeAtMarks() {
        DrawnSounds x = new DrawnSounds();
        Due.map(x, "mark 10 3;mark 11 7;mark 30 8;mark 40 18;");
        int[] due = {0, 3, 6, 10, 10, 10, 10, 11, 30, 31, 32, 33, 34, 35, 36, 37, 38, 39, -1};
        for (int t = 0; t < due.length; t++) {
            Due.same("9: place of " + t, x.place(0, t), due[t]);
        }
    }

    /** "WHERE of f: the least t with PLACE f or more"; NONE without */
    private static void whereEnds() {
        DrawnSounds x = new DrawnSounds();
        Due.map(x, "mark 10 3;mark 11 7;mark 30 8;mark 40 18;");
        int[][] due = {{LEAST, 0}, {-1, 0}, {0, 0}, {1, 1}, {3, 1}, {4, 2}, {6, 2}, {7, 3}, {10, 3}, {11, 7}, {12, 8},
            {30, 8}, {31, 9}, {39, 17}, {40, -1}, {600, -1}, {MOST, -1}};
        for (int[] one : due) {
            Due.same("10: where of " + one[0], x.where(0, one[0]), one[1]);
        }
        Due.map(x, "mark 1 1;");
        Due.same("10: where of 0", x.where(1, 0), 0);
        Due.same("10: where of 1", x.where(1, 1), -1);
        Due.map(x, "mark 600 1200;");
        Due.same("10: where of 599", x.where(2, 599), 1198);
        Due.same("10: where of 600", x.where(2, 600), -1);
        Due.map(x, "mark 1 1200;");
        Due.same("10: where of 1 that is never reached", x.where(3, 1), -1);
        Due.map(x, "mark 600 1;");
        Due.same("10: all in one", x.where(4, 0), 0);
        Due.same("10: all in one", x.where(4, 1), -1);
    }

    /** "LENGTH: the last T; it asks for SOUNDS of the last F SAMPLES or more." */
    private static void lengthsAskedFor() {
        DrawnSounds x = new DrawnSounds();
        Due.sound(x, "still 20;");
        Due.map(x, "mark 19 21;mark 20 30;");
        Due.map(x, "mark 19 21;mark 21 30;");
        Due.same("8: length", x.told(0, 1), 30);
        Due.same("8: last f", x.told(0, 2), 20);
        x.way(8, 2, 0);
        Due.same("12: just as many", x.draw(0, 0), 2);
        Due.same("14: length", x.length(), 30);
        Due.same("13: just as many", x.sharp(0, 0), 0);
        Due.same("24: just as many", x.best(0, 0), 0);
        Due.same("25: just as many", x.bestOf(0, 0, 0), 0);
        Due.same("52: just as many", x.lost(0, 0, 0), 20470);
        Due.same("31: just as many", x.sing(0, 0, 4, 8), 30);
        Due.refused("12: one too few", x, Due.UNFIT, () -> x.draw(0, 1));
        Due.refused("13: one too few", x, Due.UNFIT, () -> x.sharp(0, 1));
        Due.refused("24: one too few", x, Due.UNFIT, () -> x.best(0, 1));
        Due.refused("25: one too few", x, Due.UNFIT, () -> x.bestOf(0, 1, 0));
        Due.refused("31: one too few", x, Due.UNFIT, () -> x.sing(0, 1, 4, 8));
        Due.refused("52: one too few", x, Due.UNFIT, () -> x.lost(0, 1, 0));
    }

    /** "Numbers: digits, as many as stand there" */
    private static void numbersAreDigits() {
        right("still 9;", 9);
        right("still 10;", 10);
        right("still 0012;", 12);
        right("still 000000000000000000000000012;", 12);
        wrong("still 000;", 2, 6);
        wrong("still 12345678901234567890;", 2, 6);
        wrong("still 4/;", 1, 7);
        wrong("still 4:;", 1, 7);
        wrong("still /4;", 1, 6);
        wrong("still :4;", 1, 6);
        wrong("still +4;", 1, 6);
        wrong("still 1,0;", 1, 7);
        wrong("still 4 0;", 1, 8);
        wrong("tone 4 10;", 1, 9);
        // as many as stand there: 48 is one number, not two
        wrong("blow 48;", 1, 7);
    }

    /** "WORDS: small letters, as many as stand there" */
    private static void wordsAreSmallLetters() {
        wrong("stilla 4;", 1, 0);
        wrong("stillz 4;", 1, 0);
        wrong("still`4;", 1, 5);
        wrong("still{4;", 1, 5);
        wrong("stillA4;", 1, 5);
        wrong("STILL 4;", 1, 0);
        wrong("stilL 4;", 1, 0);
        wrong("stil 4;", 1, 0);
        wrong("xtill 4;", 1, 0);
        wrong("stilx 4;", 1, 0);
        wrong("zone 4 1 1;", 1, 0);
        wrong("slow 4 1;", 1, 0);
        wrong("miss 4 1 1;", 1, 0);
        wrong("still 1;hun 4 1;", 1, 8);
        wrongMap("bark 1 1;", 1, 0);
        wrong("sti ll 4;", 1, 0);
        wrong("toneblow 4 4;", 1, 0);
        wrong("4 4;", 1, 0);
        // no blank needs to stand between a word and a number
        right("still4;", 4);
        right("still4;tone4 1 1;hum4 2;", 5);
        wrongMap("marks 1 1;", 1, 0);
        wrongMap("mar 1 1;", 1, 0);
        wrongMap("Mark 1 1;", 1, 0);
        wrongMap("still 1;", 1, 0);
        wrong("mark 1 1;", 1, 0);
        rightMap("mark1 1;", 1, 1, 1);
    }

    /** "blanks (32) may stand ahead of all these, and at the end" */
    private static void blanksAre32() {
        right("   still   4;   tone   4   1   1;   ", 5);
        rightMap("   mark   1   2;   mark   3   4;   ", 2, 4, 3);
        for (int one : new int[] {0, 9, 10, 13, 31, 33, 95, 160, 255}) {
            DrawnSounds x = new DrawnSounds();
            int n = Due.feed(x, 's', 't', 'i', 'l', 'l', one, '4', ';');
            Due.same("3: " + one + " is no blank", x.sound(n), -9);
            Due.same("5: " + one + " is no blank", x.fault(), 5);
            n = Due.feed(x, 's', 't', 'i', 'l', 'l', ' ', '4', ';', one);
            Due.same("3: " + one + " at the end", x.sound(n), -9);
            Due.same("5: " + one + " at the end", x.fault(), 8);
            n = Due.feed(x, 'm', 'a', 'r', 'k', one, '4', ' ', '4', ';');
            Due.same("4: " + one + " is no blank", x.map(n), -9);
            Due.same("5: " + one + " is no blank", x.fault(), 4);
        }
    }

    /** "FAULTS, the first from the left, at its first byte" */
    private static void theFirstFaultFromTheLeft() {
        wrong("still 0;xyz 4;", 2, 6);
        wrong("xyz 4;still 0;", 1, 0);
        wrong("tone 61 0 0;", 2, 5);
        wrong("tone 60 0 0;", 2, 8);
        wrong("tone 60 1 0 x", 2, 10);
        wrong("   xyz 4;", 1, 3);
        wrong("still   0400;", 2, 8);
        wrong("still 300;still 300;still 2;tone 3", 3, 26);
        wrong("hiss 9 300 0;still 300;hiss 9 1 10000;", 3, 30);
        wrong("hiss 9 300 0;still 299;hiss 9 1 10000;", 2, 32);
        wrongMap("mark 0 0;", 2, 5);
        wrongMap("mark 1 0;mark 1 1;", 2, 7);
        wrongMap("mark 1 1;mork 0 0;", 1, 9);
    }

    /** "1 what can't stand there (at the length, if the text ends too early)" */
    private static void faultsAtTheLength() {
        String[] early = {"still", "still ", "still 4", "still 4  ", "tone 4", "tone 4 1", "tone 4 1 ", "tone 4 1 1",
            "blow 1", "blow 1 1", "hiss 1 1", "hiss 1 1 1", "hum 4", "hum 4 1", "still 4;hum 4", "still 4;still"};
        for (String text : early) {
            wrong(text, 1, text.length());
        }
        for (String text : new String[] {"mark", "mark ", "mark 1", "mark 1 1", "mark 1 1 ", "mark 1 1;mark 2"}) {
            wrongMap(text, 1, text.length());
        }
        // a word that is none such can't stand there, even where the text ends
        wrong("stil", 1, 0);
        wrongMap("mar", 1, 0);
        wrong("still 4;;", 1, 8);
        wrong(";", 1, 0);
        wrongMap("mark 1 1;;", 1, 9);
    }

    /** "4 at the length: there is no SAMPLE, no mark" */
    private static void nothingThere() {
        wrong("", 4, 0);
        wrong(" ", 4, 1);
        wrong("hum 4 1;", 4, 8);
        wrong("hum 4 1;hum 60 2000; ", 4, 21);
        wrong("hum 4 1;".repeat(16), 4, 128);
        wrongMap("", 4, 0);
        wrongMap("  ", 4, 2);
    }

    /** A text with a FAULT is no MAP: nothing of it is in the next one, however that is made. */
    private static DrawnSounds afterAFaultyMap() {
        DrawnSounds x = new DrawnSounds();
        Due.sound(x, "still 4;tone 4 900 12;");
        x.blowing(900, 1, 1);
        x.part(16, 1, 16, 16);
        Due.same("4: two right marks and a wrong one", Due.map(x, "mark 100 200;mark 150 300;mark 150 400;"), -8);
        Due.same("55: no map", x.count(1), 0);
        return x;
    }

    private static void nothingOfAFaultyMapStays() {
        for (int way = 0; way <= 5; way++) {
            DrawnSounds x = afterAFaultyMap();
            int made = way == 0 ? x.film(0, 16, 1) : way == 1 ? x.undo(0, 400) : way == 2 ? x.steady(0)
                : way == 3 ? x.onto(0, 1) : way == 4 ? x.planMap(16) : Due.map(x, "mark 16 16;");
            Due.same("4: the first map by way " + way, made, 0);
            Due.same("8: all samples by way " + way, x.told(0, 2), 16);
            Due.same("9: place of 0 by way " + way, x.place(0, 0), 0);
            // blows at 5, 7 .. 15 are nearest by 200, all number 0: the first one to 1, and 11 behind it
            Due.same("8: length by way " + way, x.told(0, 1), way == 3 ? 12 : 16);
            // 8 and 12 are the crossings
            Due.same("8: marks by way " + way, x.told(0, 0), way == 2 ? 3 : way == 3 ? 2 : 1);
        }
    }

    /** Likewise a text that is no SOUND. */
    private static void nothingOfAFaultySoundStays() {
        DrawnSounds x = new DrawnSounds();
        Due.same("3: two right clauses and a wrong one", Due.sound(x, "blow 900 30;blow 800 30;xyz"), -9);
        Due.same("3: the first one", Due.sound(x, "still 4;"), 0);
        Due.samples("3: the first one", x, 0, 0, 0, 0, 0);
        Due.sound(x, "blow 900 30;hum 4 2000;still 0;");
        x.pieces(4, 2, 0);
        Due.same("42: the second one", x.join(0, 0), 1);
        Due.samples("42: the second one", x, 1, 0, 0, 0, 0, 0, 0);
        Due.sound(x, "blow 900 30;still 301;");
        Due.map(x, "mark 4 5;");
        x.draw(0, 0);
        Due.same("17: the third one", x.keep(), 2);
        Due.samples("17: the third one", x, 2, 0, 0, 0, 0, 0);
    }

    /** "of one the least" */
    private static void ofOnePlaceTheLeastFault() {
        // an N that is none such, by which there would be more than 600 as well
        wrong("still 300;still 300;still 301;", 2, 26);
        wrong("still 300;still 300;blow 9 99999999999;", 2, 27);
        // a seventeenth clause that can't stand there, a thirteenth mark likewise
        wrong("still 1;".repeat(16) + "stil 1;", 1, 128);
        wrong("still 1;".repeat(16) + ";", 1, 128);
        wrong("still 1;".repeat(16) + "mark 1 1;", 1, 128);
        wrongMap(marks(12) + "mork 13 13;", 1, marks(12).length());
        wrongMap(marks(12) + "still 1;", 1, marks(12).length());
        wrongMap(marks(12) + "13", 1, marks(12).length());
        // at the length: it ends too early, and there is no sample, no mark
        wrong("hum 4 1", 1, 7);
        wrong("still", 1, 5);
        wrongMap("mark 1 1", 1, 8);
    }

    /** "Twenty bytes come on the TAPE, of each number the highest first" */
    private static void feedHighestByteFirst() {
        DrawnSounds x = new DrawnSounds();
        // "blow 7 1;blow 8 1; x"
        Due.same("2: twenty", x.feed(0x626c6f77, 0x20372031, 0x3b626c6f, 0x77203820, 0x313b2078), 20);
        Due.same("3: eighteen of them", x.sound(18), 0);
        Due.samples("3: in order", x, 0, 7, 8);
        Due.same("2: the first byte above 127", x.feed(0xff73746c, -1, LEAST, MOST, 0), 20);
        Due.same("3: it can't stand there", x.sound(20), -9);
        Due.same("5: it can't stand there", x.fault(), 0);
        Due.same("2: the lowest byte above 127", x.feed(0x202020ff, 0, 0, 0, 0), 20);
        Due.same("3: it can't stand there", x.sound(20), -9);
        Due.same("5: it can't stand there", x.fault(), 3);
    }

    /** "how many there are; NONE, doing nothing, if there would be more than 300" */
    private static void feedUpTo300() {
        DrawnSounds x = new DrawnSounds();
        int blanks = 0x20202020;
        Due.same("2: twenty", x.feed(0x7374696c, 0x6c20373b, blanks, blanks, blanks), 20);
        for (int turn = 2; turn <= 15; turn++) {
            Due.same("2: feed " + turn, x.feed(blanks, blanks, blanks, blanks, blanks), 20 * turn);
        }
        for (int turn = 0; turn < 3; turn++) {
            Due.unchanged("2: no more", x, -1, () -> x.feed(0x78787878, 0x78787878, 0, 0, 0));
        }
        Due.same("55: all of them", x.count(7), 300);
        Due.same("3: none of the refused ones is there", x.sound(300), 0);
        Due.same("6: the first ones stay", x.size(0), 7);
        Due.same("2: there is room again", x.feed(0, 0, 0, 0, 0), 20);
    }

    /** "The first n bytes of the TAPE (empty then) are a SOUND" */
    private static void soundTakesTheFirstBytes() {
        DrawnSounds x = new DrawnSounds();
        Due.feed(x, "still 4;still 5;");
        Due.same("3: the first 8 of 20", x.sound(8), 0);
        Due.same("6: those behind are not read", x.size(0), 4);
        Due.same("55: and gone", x.count(7), 0);
        Due.feed(x, "still 6;still 5;");
        Due.same("3: the first 7, without the sign behind", x.sound(7), -9);
        Due.same("5: it ends too early", x.fault(), 7);
        Due.feed(x, "still 66;");
        Due.same("3: the first 6, without the number", x.sound(6), -9);
        Due.same("5: it ends too early", x.fault(), 6);
        Due.feed(x, "still 6;still 5;");
        Due.same("3: all of 20, zeros behind", x.sound(20), -9);
        Due.same("5: the first of them", x.fault(), 16);
        Due.same("55: the tape is empty behind a fault", x.count(7), 0);
        Due.feed(x, "still 6;");
        Due.same("3: none of 20", x.sound(0), -6);
        Due.same("55: the tape is empty even so", x.count(7), 0);
        Due.same("3: none of none", x.sound(0), -6);
    }

    /** "IllegalArgumentException: n is not 0 to the TAPE's bytes (it stays)." */
    private static void soundOfTooManyBytes() {
        DrawnSounds x = new DrawnSounds();
        Due.refused("3: one of none", x, Due.WRONG, () -> x.sound(1));
        Due.refused("3: below none", x, Due.WRONG, () -> x.sound(-1));
        Due.feed(x, "still 6;");
        Due.refused("3: 21 of 20", x, Due.WRONG, () -> x.sound(21));
        Due.refused("3: below none", x, Due.WRONG, () -> x.sound(-1));
        Due.refused("3: far below none", x, Due.WRONG, () -> x.sound(LEAST));
        Due.refused("3: far too many", x, Due.WRONG, () -> x.sound(MOST));
        Due.same("3: it stays as it was", x.sound(8), 0);
        Due.same("6: it stays as it was", x.size(0), 6);
    }

    /** "-1: there are 5 (it is not read; the TAPE is empty then, too)" */
    private static void aSixthSoundIsNotRead() {
        DrawnSounds x = new DrawnSounds();
        for (int k = 0; k < 5; k++) {
            Due.same("3: sound " + k, Due.sound(x, "still " + (k + 1) + ";"), k);
        }
        Due.feed(x, "still 6;");
        Due.thrown("3: too many bytes come first", Due.WRONG, () -> x.sound(21));
        Due.same("55: the tape stays", x.count(7), 20);
        Due.same("3: a sixth one", x.sound(8), -1);
        Due.same("55: the tape is empty", x.count(7), 0);
        Due.same("55: five", x.count(0), 5);
        Due.feed(x, "stil 6;");
        Due.same("3: a faulty one is not read", x.sound(7), -1);
        Due.same("5: it has no fault", x.fault(), -1);
        for (int k = 0; k < 5; k++) {
            Due.same("6: they stay", x.size(k), k + 1);
        }
    }

    /** Promise 4: "Likewise a MAP." */
    private static void mapTakesTheFirstBytes() {
        DrawnSounds x = new DrawnSounds();
        Due.feed(x, "mark 4 5;mark 6 7;");
        Due.same("4: the first 9 of 20", x.map(9), 0);
        Due.same("8: those behind are not read", x.told(0, 0), 1);
        Due.same("55: and gone", x.count(7), 0);
        Due.feed(x, "mark 4 5;mark 6 7;");
        Due.same("4: the first 8, without the sign behind", x.map(8), -9);
        Due.same("5: it ends too early", x.fault(), 8);
        Due.feed(x, "mark 4 5;mark 6 7;");
        Due.same("4: all of 20, zeros behind", x.map(20), -9);
        Due.same("5: the first of them", x.fault(), 18);
        Due.same("55: the tape is empty behind a fault", x.count(7), 0);
        Due.feed(x, "mark 4 5;");
        Due.same("4: none of 20", x.map(0), -6);
        Due.same("55: the tape is empty even so", x.count(7), 0);
    }

    /** Promise 4: "Likewise": refused bytes stay. */
    private static void mapOfTooManyBytes() {
        DrawnSounds x = new DrawnSounds();
        Due.refused("4: one of none", x, Due.WRONG, () -> x.map(1));
        Due.feed(x, "mark 4 5;");
        Due.refused("4: 21 of 20", x, Due.WRONG, () -> x.map(21));
        Due.refused("4: below none", x, Due.WRONG, () -> x.map(-1));
        Due.refused("4: far below none", x, Due.WRONG, () -> x.map(LEAST));
        Due.refused("4: far too many", x, Due.WRONG, () -> x.map(MOST));
        Due.same("4: it stays as it was", x.map(9), 0);
    }

    /** Promise 4: "Likewise": a sixth one. */
    private static void aSixthMapIsNotRead() {
        DrawnSounds x = new DrawnSounds();
        for (int k = 0; k < 5; k++) {
            Due.same("4: map " + k, Due.map(x, "mark 1 " + (k + 1) + ";"), k);
        }
        Due.feed(x, "mark 9 9;");
        Due.thrown("4: too many bytes come first", Due.WRONG, () -> x.map(21));
        Due.same("55: the tape stays", x.count(7), 20);
        Due.same("4: a sixth one", x.map(9), -1);
        Due.same("55: the tape is empty", x.count(7), 0);
        Due.same("55: five", x.count(1), 5);
        Due.feed(x, "mork 9 9;");
        Due.same("4: a faulty one is not read", x.map(9), -1);
        Due.same("5: it has no fault", x.fault(), -1);
        for (int k = 0; k < 5; k++) {
            Due.same("8: they stay", x.told(k, 1), k + 1);
        }
    }

    /** "The place of the FAULT of the latest text; NONE without." */
    private static void faultOfTheLatestText() {
        DrawnSounds x = new DrawnSounds();
        Due.same("5: no text yet", x.fault(), -1);
        Due.sound(x, "xyz");
        Due.same("5: at 0", x.fault(), 0);
        Due.same("5: asked again", x.fault(), 0);
        Due.sound(x, "still 1;");
        Due.same("5: a right one behind it", x.fault(), -1);
        Due.map(x, "mark 1 1201;");
        Due.same("5: a map's", x.fault(), 7);
        Due.feed(x, "still 1;");
        Due.same("5: feeding gives no text", x.fault(), 7);
        x.sound(0);
        Due.same("5: of an empty text", x.fault(), 0);
        Due.map(x, "mark 1 1200;");
        Due.same("5: a right one behind it", x.fault(), -1);
    }

    /** "NoSuchElementException: no such SOUND (so below)." */
    private static void noSuchSound() {
        DrawnSounds x = new DrawnSounds();
        Due.sound(x, "still 4;");
        Due.sound(x, "still 5;");
        Due.same("6: the last one", x.size(1), 5);
        for (int sound : new int[] {-1, 2, 4, 5, LEAST, MOST}) {
            Due.thrown("6: sound " + sound, Due.NO_SOUND, () -> x.size(sound));
            Due.thrown("7: sound " + sound, Due.NO_SOUND, () -> x.sample(sound, 0));
            Due.thrown("7: sound " + sound + " has no sample either", Due.NO_SOUND, () -> x.sample(sound, -1));
        }
    }

    /** "A SAMPLE; VOID: there is none such." */
    private static void noSuchSample() {
        DrawnSounds x = new DrawnSounds();
        Due.sound(x, "blow 7 1;blow 8 1;blow 9 1;");
        Due.sound(x, "still 300;still 299;blow 3 1;");
        Due.same("7: the first", x.sample(0, 0), 7);
        Due.same("7: the last", x.sample(0, 2), 9);
        Due.same("7: the last of 600", x.sample(1, 599), 3);
        for (int k : new int[] {-1, 3, LEAST, MOST}) {
            Due.same("7: sample " + k, x.sample(0, k), -5000);
        }
        Due.same("7: behind 600", x.sample(1, 600), -5000);
    }

    /** "IndexOutOfBoundsException: no such MAP (so below); IllegalArgumentException: another what" */
    private static void noSuchMap() {
        DrawnSounds x = new DrawnSounds();
        Due.map(x, "mark 4 5;");
        Due.map(x, "mark 5 6;mark 7 9;");
        Due.same("8: marks", x.told(1, 0), 2);
        Due.same("8: length", x.told(1, 1), 9);
        Due.same("8: last f", x.told(1, 2), 7);
        for (int what : new int[] {-1, 3, LEAST, MOST}) {
            Due.thrown("8: what " + what, Due.WRONG, () -> x.told(1, what));
        }
        for (int map : new int[] {-1, 2, 4, 5, LEAST, MOST}) {
            Due.thrown("8: map " + map, Due.NO_MAP, () -> x.told(map, 0));
            Due.thrown("8: map " + map + " comes first", Due.NO_MAP, () -> x.told(map, 3));
            Due.thrown("9: map " + map, Due.NO_MAP, () -> x.place(map, 0));
            Due.thrown("9: map " + map + " has no place either", Due.NO_MAP, () -> x.place(map, -1));
            Due.thrown("10: map " + map, Due.NO_MAP, () -> x.where(map, 0));
            Due.thrown("10: map " + map + " has none either", Due.NO_MAP, () -> x.where(map, 601));
        }
    }
}
