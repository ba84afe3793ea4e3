/**
 * The boundary cases of LIVE and LOST, of IMAGES and counts, and of promises 49 to 55: one
 * method for each sentence that names one.
 */
public final class EdgesLiveTest {
    private static final int LEAST = Integer.MIN_VALUE;
    private static final int MOST = Integer.MAX_VALUE;

    public static void main(String[] args) {
        streamsAndBuffers();
        failsByMoreThanItHolds();
        failsByFewerThanGo();
        goesFromTheTickOfLagOn();
        failsInTheFirstTick();
        beginsEmpty();
        soManyTicks();
        leastLag();
        lagUpTo99();
        lagsFromAToB();
        lagsUpTo99();
        lostNothing();
        lostEachThatOneHasMore();
        lostLongerThanASound();
        lostRefusals();
        lostLeavesTheResult();
        threeImages();
        restoreWithoutImage();
        restoresTheLatest();
        restoresAllAsInIt();
        restoresPieces();
        restoresBlowsTold();
        restoresWhatHarmsCount();
        restoresWaysPartsAndHums();
        restoresNothingElse();
        resultGoes();
        restoredPlacesAreFree();
        countsOfEach();
        noSuchCount();
        Due.end();
    }

    /** "so many come in (0 to 99)", "go out (0 to 99)", "holds so many (1 to 999)", ticks 1 to 999, "(LAG 0 to 999)" */
    private static void streamsAndBuffers() {
        DrawnSounds x = new DrawnSounds();
        Due.same("49: the least of all", x.live(0, 0, 1, 0, 1), -1);
        Due.same("49: the most of all", x.live(99, 99, 999, 999, 999), 10);
        Due.same("50: the least of all", x.lag(0, 0, 1, 1), 0);
        Due.same("50: the most of all", x.lag(99, 99, 999, 999), 0);
        Due.same("51: the least of all", x.lags(0, 0, 0, 1, 1), 0);
        Due.same("51: the most of all", x.lags(99, 99, 99, 999, 999), 0);
        int[][] wrong = {{-1, 0, 1, 0, 1}, {100, 0, 1, 0, 1}, {0, -1, 1, 0, 1}, {0, 100, 1, 0, 1}, {0, 0, 0, 0, 1},
            {0, 0, 1000, 0, 1}, {0, 0, 1, -1, 1}, {0, 0, 1, 1000, 1}, {0, 0, 1, 0, 0}, {0, 0, 1, 0, 1000},
            {LEAST, 0, 1, 0, 1}, {MOST, 0, 1, 0, 1}, {0, LEAST, 1, 0, 1}, {0, MOST, 1, 0, 1}, {0, 0, LEAST, 0, 1},
            {0, 0, MOST, 0, 1}, {0, 0, 1, LEAST, 1}, {0, 0, 1, MOST, 1}, {0, 0, 1, 0, LEAST}, {0, 0, 1, 0, MOST}};
        for (int[] w : wrong) {
            String what = w[0] + " " + w[1] + " " + w[2] + " " + w[3] + " " + w[4];
            DrawnSounds y = new DrawnSounds();
            Due.refused("49: " + what, y, Due.WRONG, () -> y.live(w[0], w[1], w[2], w[3], w[4]));
            if (w[3] == 0) {
                Due.refused("50: " + what, y, Due.WRONG, () -> y.lag(w[0], w[1], w[2], w[4]));
                Due.refused("51: both " + what, y, Due.WRONG, () -> y.lags(w[0], w[1], w[1], w[2], w[4]));
                Due.refused("51: b " + what, y, Due.WRONG, () -> y.lags(w[0], 0, w[1], w[2], w[4]));
                Due.refused("51: a " + what, y, Due.WRONG, () -> y.lags(w[0], w[1], 99, w[2], w[4]));
            }
        }
    }

    /** "it fails in the first tick in which there would be more" */
    private static void failsByMoreThanItHolds() {
        DrawnSounds x = new DrawnSounds();
        Due.same("49: just as many as it holds", x.live(5, 0, 10, 0, 2), -1);
        Due.same("49: more in the third", x.live(5, 0, 10, 0, 3), 2);
        Due.same("49: one more", x.live(5, 0, 9, 0, 9), 1);
        Due.same("49: at once", x.live(5, 5, 4, 0, 9), 0);
        Due.same("49: just as many at once", x.live(5, 5, 5, 0, 999), -1);
        // more comes before it goes out
        Due.same("49: 8 of 8 in the second", x.live(4, 4, 8, 1, 999), -1);
        Due.same("49: 8 of 7 in the second", x.live(4, 4, 7, 1, 999), 1);
        Due.same("49: it grows by one", x.live(5, 4, 9, 0, 50), 5);
        Due.same("49: it would grow in the sixth", x.live(5, 4, 9, 0, 5), -1);
    }

    /** "or in which there are fewer than go" */
    private static void failsByFewerThanGo() {
        DrawnSounds x = new DrawnSounds();
        Due.same("49: fewer at once", x.live(3, 4, 999, 0, 9), 0);
        // 3; 6 less 4; 5 less 4; 4 less 4; 3
        Due.same("49: just as many in the fourth", x.live(3, 4, 999, 1, 4), -1);
        Due.same("49: fewer in the fifth", x.live(3, 4, 999, 1, 5), 4);
        Due.same("49: none come", x.live(0, 1, 999, 3, 9), 3);
        Due.same("49: none go", x.live(0, 0, 999, 3, 9), -1);
    }

    /** "from the tick of that number LAG on (ticks from 0)" */
    private static void goesFromTheTickOfLagOn() {
        DrawnSounds x = new DrawnSounds();
        Due.same("49: 4 by 4 from 3 on: 16 in the fourth", x.live(4, 4, 16, 3, 999), -1);
        Due.same("49: 16 is more than 15", x.live(4, 4, 15, 3, 999), 3);
        Due.same("49: it fails in tick 4 at the earliest", x.live(1, 99, 999, 4, 9), 4);
        Due.same("49: five ticks are 0 to 4", x.live(1, 99, 999, 4, 5), 4);
        Due.same("49: four are 0 to 3", x.live(1, 99, 999, 4, 4), -1);
        Due.same("49: lag beyond all ticks", x.live(1, 99, 5, 6, 5), -1);
        Due.same("49: it still may be too full", x.live(1, 99, 5, 6, 6), 5);
        Due.same("49: the greatest lag", x.live(1, 99, 999, 999, 999), -1);
        Due.same("49: the greatest lag, too full", x.live(1, 99, 998, 999, 999), 998);
        Due.same("49: lag 998 of 999", x.live(1, 99, 999, 998, 999), -1);
        Due.same("49: lag 901 of 999", x.live(1, 99, 999, 901, 999), 910);
    }

    /** "in the first tick": of both ways the earlier one */
    private static void failsInTheFirstTick() {
        DrawnSounds x = new DrawnSounds();
        Due.same("49: too full ahead of too empty", x.live(5, 99, 9, 3, 9), 1);
        Due.same("49: too empty, where it would be too full", x.live(5, 6, 19, 0, 9), 0);
        Due.same("49: too full in the tick in which it is too empty", x.live(5, 99, 19, 3, 9), 3);
    }

    /** "of a buffer that .. begins empty" */
    private static void beginsEmpty() {
        DrawnSounds x = new DrawnSounds();
        Due.same("49: nothing there yet", x.live(0, 1, 999, 0, 1), 0);
        Due.same("49: a run ahead leaves nothing", x.live(9, 0, 999, 0, 9), -1);
        Due.same("49: nothing there again", x.live(0, 1, 999, 0, 1), 0);
    }

    /** "so many ticks (1 to 999): the first that fails; NONE" */
    private static void soManyTicks() {
        DrawnSounds x = new DrawnSounds();
        Due.same("49: one", x.live(1, 0, 1, 0, 1), -1);
        Due.same("49: two", x.live(1, 0, 1, 0, 2), 1);
        Due.same("49: the last of 999", x.live(1, 0, 998, 0, 999), 998);
        Due.same("49: none of 998", x.live(1, 0, 998, 0, 998), -1);
    }

    /** "The least LAG (0 to 99) by which it does not fail" */
    private static void leastLag() {
        DrawnSounds x = new DrawnSounds();
        Due.same("50: all are right", x.lag(4, 4, 999, 99), 0);
        Due.same("50: 0 alone is right", x.lag(4, 4, 4, 99), 0);
        // 15 come; 4 times 4 are too many, 3 times 4 are not
        Due.same("50: 2", x.lag(3, 4, 999, 5), 2);
        Due.same("50: 2 that it just holds", x.lag(3, 4, 9, 5), 2);
        Due.same("50: 9 are more than 8", x.lag(3, 4, 8, 5), -1);
        Due.same("50: none holds", x.lag(9, 9, 8, 1), -1);
    }

    /** "(0 to 99)"; "NONE" */
    private static void lagUpTo99() {
        DrawnSounds x = new DrawnSounds();
        Due.same("50: 99", x.lag(0, 1, 5, 99), 99);
        Due.same("50: 100 would be right", x.lag(0, 1, 5, 100), -1);
        Due.same("50: 1", x.lag(0, 1, 5, 1), 1);
        Due.same("50: never within its ticks, just full at the end", x.lag(1, 99, 10, 10), 10);
        Due.same("50: never within its ticks, too full at the end", x.lag(1, 99, 9, 10), -1);
        // what comes in 100 ticks goes in one
        Due.same("50: 99 of 100 ticks", x.lag(1, 99, 99, 99), 98);
        Due.same("50: 99 of 100 ticks", x.lag(1, 99, 100, 100), 99);
        Due.same("50: 100 is one more than it holds", x.lag(1, 99, 99, 100), -1);
    }

    /** "for any that go out from a to b" */
    private static void lagsFromAToB() {
        DrawnSounds x = new DrawnSounds();
        Due.same("51: one", x.lags(3, 4, 4, 999, 5), 2);
        // by 5 it is 3: 15 come, 2 times 5 go; by 2 all are right
        Due.same("51: b asks for most", x.lags(3, 2, 5, 999, 5), 2);
        Due.same("51: b asks for most", x.lags(3, 2, 6, 999, 5), 3);
        Due.same("51: by 6 alone", x.lag(3, 6, 999, 5), 3);
        // by 2 it is too full in tick 4 with 15 less 8 and more, whatever the lag
        Due.same("51: a holds most", x.lags(3, 2, 2, 6, 5), -1);
        Due.same("51: a holds just that", x.lags(3, 2, 2, 7, 5), 0);
        Due.same("51: from 2 to 3 it just holds", x.lags(3, 2, 3, 7, 5), 0);
        Due.same("51: from 2 to 4 it does not", x.lags(3, 2, 4, 7, 5), -1);
        Due.same("51: from 0 to 99", x.lags(0, 0, 99, 1, 99), 99);
        Due.same("51: 0 and 99 of 100 ticks", x.lags(1, 0, 99, 100, 100), 99);
        Due.same("51: one within is not enough", x.lags(5, 4, 6, 12, 10), -1);
    }

    /** "(0 to 99; b not below a)"; "NONE" */
    private static void lagsUpTo99() {
        DrawnSounds x = new DrawnSounds();
        Due.same("51: b as great as a", x.lags(5, 6, 6, 40, 10), 2);
        Due.refused("51: b below a", x, Due.WRONG, () -> x.lags(5, 6, 5, 40, 10));
        Due.refused("51: b far below a", x, Due.WRONG, () -> x.lags(5, 99, 0, 40, 10));
        Due.same("51: 99", x.lags(0, 0, 1, 5, 99), 99);
        Due.same("51: 100 would be right", x.lags(0, 0, 1, 5, 100), -1);
    }

    private static DrawnSounds made(String sound, int wide, int over, int seek, String... maps) {
        DrawnSounds x = new DrawnSounds();
        Due.sound(x, sound);
        for (String map : maps) {
            Due.map(x, map);
        }
        x.pieces(wide, over, seek);
        return x;
    }

    /** "how far all SAMPLES, as many as both have, are from those of the SOUND, together" */
    private static void lostNothing() {
        DrawnSounds x = made(Due.row(10, 20, 30, 40), 4, 1, 0, "mark 4 4;", "mark 4 8;", "mark 8 4;");
        Due.same("52: nothing", x.lost(0, 0, 0), 0);
        // 10 20 30 40 20 30 40 20 and its first four
        Due.same("52: there and back", x.lost(0, 1, 2), 0);
        DrawnSounds y = made(Due.row(10, 20, 30, 40, 90, 60, 70, 80), 4, 1, 0, "mark 8 8;");
        // the last one comes as 60 there, and so it does back
        y.draw(0, 0);
        Due.same("15: as it comes there", y.result(7), 60);
        Due.same("52: from the sound, not from what came there", y.lost(0, 0, 0), 80 - 60);
    }

    /** "and each that one has more counts 2,047" */
    private static void lostEachThatOneHasMore() {
        int[] backs = {1, 3, 4, 5, 9};
        for (int back : backs) {
            DrawnSounds x = made("still 4;", 4, 1, 0, "mark 4 4;", "mark 4 " + back + ";");
            Due.same("52: back to " + back, x.lost(0, 0, 1), 2047 * Math.abs(back - 4));
        }
        DrawnSounds x = made("still 300;still 300;", 4, 1, 0, "mark 600 4;", "mark 1 1;", "mark 4 1200;");
        Due.same("52: one of 600", x.lost(0, 0, 1), 2047 * 599);
        // 9 all along: those that the sound has more count 2,047 each, whatever they are
        DrawnSounds y = made(Due.row(9, 9, 9, 9, 9), 4, 1, 0, "mark 5 5;", "mark 5 3;", "mark 5 7;");
        Due.same("52: two fewer", y.lost(0, 0, 1), 2 * 2047);
        Due.same("52: two more", y.lost(0, 0, 2), 2 * 2047);
        Due.same("52: 1,200 of 600", x.lost(0, 0, 2), 2047 * 600);
    }

    /** "(what comes of the first MAP may be longer than a SOUND)" */
    private static void lostLongerThanASound() {
        DrawnSounds x = made("still 16;", 16, 4, 3, "mark 16 1200;", "mark 600 16;", "mark 16 601;", "mark 600 1200;");
        Due.same("52: 1,200 on the way", x.lost(0, 0, 1), 0);
        Due.same("52: 601 on the way", x.lost(0, 2, 1), 0);
        Due.same("52: 1,200 both times", x.lost(0, 0, 3), 2047 * (1200 - 16));
    }

    /** "IndexOutOfBoundsException: of both MAPS; IllegalStateException: of both." */
    private static void lostRefusals() {
        DrawnSounds x = made("still 16;", 8, 2, 0, "mark 16 16;", "mark 17 16;", "mark 16 8;", "mark 8 7;", "mark 8 16;");
        Due.same("52: 8 come, 8 are asked for", x.lost(0, 2, 4), 0);
        Due.refused("52: 17 of 16", x, Due.UNFIT, () -> x.lost(0, 1, 0));
        Due.refused("52: back 17 of 16", x, Due.UNFIT, () -> x.lost(0, 0, 1));
        Due.refused("52: back 16 of 8", x, Due.UNFIT, () -> x.lost(0, 2, 0));
        Due.refused("52: 7 come, fewer than wide", x, Due.UNFIT, () -> x.lost(0, 3, 4));
        x.pieces(16, 2, 0);
        Due.same("52: just wide, both times", x.lost(0, 0, 0), 0);
        Due.refused("52: 8 come, fewer than wide", x, Due.UNFIT, () -> x.lost(0, 2, 4));
        x.pieces(17, 2, 0);
        Due.refused("52: fewer than wide", x, Due.UNFIT, () -> x.lost(0, 0, 0));
        for (int none : new int[] {-1, 5, LEAST, MOST}) {
            Due.thrown("52: no such sound comes first", Due.NO_SOUND, () -> x.lost(none, none, none));
            Due.thrown("52: no such map", Due.NO_MAP, () -> x.lost(0, none, 0));
            Due.thrown("52: no such map back", Due.NO_MAP, () -> x.lost(0, 0, none));
            Due.thrown("52: no such map back comes ahead of its refusal there", Due.NO_MAP, () -> x.lost(0, 1, none));
        }
    }

    /** "(PIECES as they are; the RESULT stays)" */
    private static void lostLeavesTheResult() {
        DrawnSounds x = made("tone 9 90 40;", 10, 3, 2, "mark 40 50;", "mark 50 40;", "mark 41 9;");
        int lost = x.lost(0, 0, 1);
        Due.unchanged("52: no result yet", x, lost, () -> x.lost(0, 0, 1));
        x.draw(0, 0);
        Due.unchanged("52: drawn", x, lost, () -> x.lost(0, 0, 1));
        Due.refused("52: refused", x, Due.UNFIT, () -> x.lost(0, 2, 1));
        x.sing(0, 0, 9, 9);
        Due.unchanged("52: sung", x, lost, () -> x.lost(0, 0, 1));
        Due.same("11: the pieces stay", x.pieces(16, 4, 3), 10);
        x.draw(0, 0);
        Due.same("52: by the pieces as they are, they do matter", x.lost(0, 0, 1) == lost ? 1 : 0, 0);
    }

    /** "how many there are; -1: there are 3" */
    private static void threeImages() {
        DrawnSounds x = new DrawnSounds();
        for (int k = 1; k <= 3; k++) {
            Due.same("53: image " + k, x.image(), k);
            Due.same("55: images", x.count(6), k);
        }
        Due.unchanged("53: a fourth one", x, -1, () -> x.image());
        x.hum(500);
        Due.unchanged("53: a fourth one", x, -1, () -> x.image());
        Due.same("54: the third", x.restore(), 2);
        Due.same("55: it does not hold what came behind it", x.count(5), 0);
        Due.same("53: a third one again", x.image(), 3);
    }

    /** "-1: there is none" */
    private static void restoreWithoutImage() {
        DrawnSounds x = made("still 16;", 8, 2, 0, "mark 16 16;");
        x.draw(0, 0);
        Due.unchanged("54: none", x, -1, () -> x.restore());
        x.image();
        Due.same("54: the only one", x.restore(), 0);
        x.draw(0, 0);
        Due.unchanged("54: it is gone", x, -1, () -> x.restore());
    }

    /** "All is as in the latest IMAGE, which is gone: how many are left" */
    private static void restoresTheLatest() {
        DrawnSounds x = new DrawnSounds();
        for (int k = 1; k <= 3; k++) {
            x.hum(400 + k);
            Due.same("53: image " + k, x.image(), k);
        }
        x.hum(500);
        for (int k = 2; k >= 0; k--) {
            Due.same("54: image " + (k + 1), x.restore(), k);
            Due.same("55: its hums", x.count(5), k + 1);
            Due.same("55: images", x.count(6), k);
        }
        Due.same("54: no more", x.restore(), -1);
        Due.same("55: as in the first one", x.count(5), 1);
    }

    /** "SOUNDS, MAPS": from none to five, and from five to those there were */
    private static void restoresAllAsInIt() {
        DrawnSounds x = new DrawnSounds();
        x.image();
        for (int k = 0; k < 5; k++) {
            Due.sound(x, "blow " + (k + 1) + " 1;");
            Due.map(x, "mark 1 " + (k + 1) + ";");
            if (k == 2) {
                x.image();
            }
        }
        Due.same("3: five", x.sound(0), -1);
        Due.same("4: five", x.map(0), -1);
        Due.same("54: three", x.restore(), 1);
        Due.same("55: sounds", x.count(0), 3);
        Due.same("55: maps", x.count(1), 3);
        for (int k = 0; k < 3; k++) {
            Due.same("7: sound " + k, x.sample(k, 0), k + 1);
            Due.same("8: map " + k, x.told(k, 1), k + 1);
        }
        Due.thrown("6: the fourth is gone", Due.NO_SOUND, () -> x.size(3));
        Due.thrown("8: the fourth is gone", Due.NO_MAP, () -> x.told(3, 0));
        Due.same("54: none", x.restore(), 0);
        Due.thrown("6: the first is gone", Due.NO_SOUND, () -> x.size(0));
        Due.thrown("8: the first is gone", Due.NO_MAP, () -> x.told(0, 0));
        Due.same("3: the first again", Due.sound(x, "still 9;"), 0);
        Due.same("4: the first again", Due.map(x, "mark 9 9;"), 0);
    }

    /** "PIECES": all three */
    private static void restoresPieces() {
        DrawnSounds x = new DrawnSounds();
        Due.sound(x, Due.row(10, 20, 30, 40, 50, 60));
        Due.sound(x, Due.row(30, 44, 7));
        x.pieces(8, 2, 1);
        x.image();
        x.pieces(16, 1, 20);
        x.restore();
        // as it is by 8, 2, 1
        Due.same("42: joined", x.join(0, 1), 2);
        Due.samples("42: by over 2 and seek 1", x, 2, 10, 20, 30, 40, (50 + 44) / 2, 7);
        Due.same("11: wide", x.pieces(16, 4, 3), 8);
    }

    /** "BLOWS told": all three */
    private static void restoresBlowsTold() {
        int[][] others = {{99, 2, 2}, {101, 2, 2}, {100, 1, 2}, {100, 3, 2}, {100, 2, 1}, {100, 2, 3}};
        for (int[] other : others) {
            DrawnSounds x = new DrawnSounds();
            Due.sound(x, Due.row(99, 0, 197, 0, 0, 99, 0, 198, 0, 0, 100));
            x.blowing(100, 2, 2);
            x.image();
            x.blowing(other[0], other[1], other[2]);
            x.restore();
            String what = "54: by 100, 2, 2, not by " + other[0] + " " + other[1] + " " + other[2];
            Due.same(what, x.blow(0, 0), 7);
            Due.same(what, x.blow(0, 1), 10);
            Due.same(what, x.blow(0, 2), -1);
            Due.same(what, x.blowing(200, 3, 8), 100);
        }
    }

    /** "what HARMS count": each of the four */
    private static void restoresWhatHarmsCount() {
        DrawnSounds x = new DrawnSounds();
        for (int harm = 0; harm <= 3; harm++) {
            x.weigh(harm, 10 + harm);
        }
        x.image();
        for (int harm = 0; harm <= 3; harm++) {
            x.weigh(harm, 20 + harm);
        }
        x.restore();
        for (int harm = 0; harm <= 3; harm++) {
            Due.same("54: harm " + harm, x.weigh(harm, 0), 10 + harm);
        }
    }

    /** "WAYS, PARTS, HUMS": those there were, as they were, and room for as many as before */
    private static void restoresWaysPartsAndHums() {
        DrawnSounds x = made("tone 8 80 40;", 16, 4, 3, "mark 40 44;");
        x.way(8, 2, 0);
        x.part(10, 5, 0, 12);
        x.hum(900);
        x.image();
        x.way(8, 2, 8);
        x.part(10, 1, 0, 12);
        x.hum(800);
        Due.same("24: the second", x.best(0, 0), 1);
        Due.same("27: the second", x.planned(15, 1), 5);
        Due.same("36: the second", x.meant(0, 0), 1);
        x.restore();
        Due.same("24: the first", x.best(0, 0), 0);
        Due.same("27: no second", x.planned(12, 1), -5000);
        Due.same("27: the first", x.planned(12, -1), 10);
        Due.same("27: the first", x.planned(12, 0), 12);
        Due.same("27: no more than the first may be", x.planned(13, -1), -5000);
        Due.same("28: the first", x.planMap(12), 1);
        Due.same("8: the first", x.told(1, 0), 1);
        Due.same("8: the first", x.told(1, 2), 10);
        Due.same("36: the first", x.meant(0, 0), 0);
        Due.same("36: no second", x.meant(0, 1), -1);
        Due.same("23: the second again", x.way(4, 1, 0), 1);
        Due.same("23: the third", x.way(4, 1, 0), 2);
        Due.same("23: the fourth", x.way(4, 1, 0), 3);
        Due.same("23: no more", x.way(4, 1, 0), -1);
        for (int k = 2; k <= 10; k++) {
            Due.same("26: part " + k, x.part(1, 0, 0, 0), k);
        }
        Due.same("26: no more", x.part(1, 0, 0, 0), -1);
        for (int k = 2; k <= 6; k++) {
            Due.same("35: hum " + k, x.hum(850), k);
        }
        Due.same("35: no more", x.hum(850), -1);
    }

    /** What the IMAGE does not tell of stays: the TAPE and the FAULT of the latest text. */
    private static void restoresNothingElse() {
        DrawnSounds x = new DrawnSounds();
        Due.feed(x, "still 3;still 3;still 3;");
        x.image();
        x.sound(0);
        Due.sound(x, "still 0;");
        Due.feed(x, "still 7;");
        x.restore();
        Due.same("55: the tape", x.count(7), 20);
        Due.same("5: the latest text", x.fault(), 6);
        Due.same("3: the tape", x.sound(8), 0);
        Due.same("6: the tape", x.size(0), 7);
    }

    /** "(The RESULT, its SEAMS and HARM go: as at first.)" */
    private static void resultGoes() {
        DrawnSounds x = made("still 15;blow 900 1;", 8, 2, 0, "mark 16 16;");
        x.draw(0, 0);
        Due.same("53: an image", x.image(), 1);
        Due.same("14: the result stays", x.length(), 16);
        Due.same("55: its seams stay", x.count(2), 2);
        Due.same("21: its harm stays", x.harm(0), 0);
        x.restore();
        Due.same("14: no result", x.length(), 0);
        Due.same("15: no result", x.result(0), -5000);
        Due.same("55: no seams", x.count(2), 0);
        Due.same("16: no seams", x.seam(0, 0), -5000);
        for (int what = 0; what <= 4; what++) {
            Due.same("21: no harm", x.harm(what), -1);
        }
        Due.same("20: no blows", x.blows(), 0);
        Due.same("32: no jump", x.jump(), 0);
        Due.same("44: colour of the sound alone", x.colour(0, 8), 900);
        Due.same("17: nothing to keep", x.keep(), -2);
    }

    /** What comes behind an IMAGE does not change what an earlier one tells of. */
    private static void restoredPlacesAreFree() {
        DrawnSounds x = made(Due.row(1, 2, 3, 4), 4, 1, 0, "mark 1 1;mark 4 4;");
        x.image();
        Due.sound(x, Due.row(5, 6, 7, 8));
        Due.map(x, "mark 2 3;mark 4 9;");
        x.image();
        x.restore();
        x.draw(1, 1);
        Due.same("17: a third one", x.keep(), 2);
        Due.samples("54: the second one", x, 1, 5, 6, 7, 8);
        x.restore();
        Due.samples("54: the first one", x, 0, 1, 2, 3, 4);
        Due.same("8: the first one", x.told(0, 0), 2);
        Due.same("3: another second one", Due.sound(x, "still 2;"), 1);
        Due.samples("3: another second one", x, 1, 0, 0);
        Due.same("4: another second one", Due.map(x, "mark 3 3;"), 1);
        Due.same("8: another second one", x.told(1, 0), 1);
    }

    private static void counts(String what, DrawnSounds x, int... due) {
        for (int k = 0; k < due.length; k++) {
            Due.same("55: " + what + ": count " + k, x.count(k), due[k]);
        }
    }

    /** "0 SOUNDS, 1 MAPS, 2 SEAMS, 3 WAYS, 4 PARTS, 5 HUMS, 6 IMAGES, 7 bytes of the TAPE" */
    private static void countsOfEach() {
        DrawnSounds x = new DrawnSounds();
        counts("nothing", x, 0, 0, 0, 0, 0, 0, 0, 0);
        Due.sound(x, "still 16;");
        counts("a sound", x, 1, 0, 0, 0, 0, 0, 0, 0);
        Due.map(x, "mark 16 16;");
        Due.map(x, "mark 16 600;");
        counts("two maps", x, 1, 2, 0, 0, 0, 0, 0, 0);
        x.pieces(4, 2, 0);
        x.draw(0, 0);
        counts("seven seams", x, 1, 2, 7, 0, 0, 0, 0, 0);
        x.way(4, 1, 0);
        counts("a way", x, 1, 2, 7, 1, 0, 0, 0, 0);
        x.part(1, 1, 1, 1);
        counts("a part", x, 1, 2, 7, 1, 1, 0, 0, 0);
        x.hum(400);
        counts("a hum", x, 1, 2, 7, 1, 1, 1, 0, 0);
        x.image();
        counts("an image", x, 1, 2, 7, 1, 1, 1, 1, 0);
        x.feed(0, 0, 0, 0, 0);
        counts("twenty bytes", x, 1, 2, 7, 1, 1, 1, 1, 20);
        x.draw(0, 1);
        Due.same("55: 299 seams", x.count(2), 299);
        x.sing(0, 0, 4, 8);
        Due.same("55: sung, no seams", x.count(2), 0);
    }

    /** "NONE for others" */
    private static void noSuchCount() {
        DrawnSounds x = new DrawnSounds();
        for (int what : new int[] {-1, 8, 9, LEAST, MOST}) {
            Due.same("55: count " + what, x.count(what), -1);
        }
    }
}
