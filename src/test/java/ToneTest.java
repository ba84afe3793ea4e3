/** Promises 29 to 38 and 44 to 47: pitch, singing, speeds, colours, peaks, steadiness. */
public final class ToneTest {
    public static void main(String[] args) {
        pitch();
        turned();
        sing();
        jump();
        crossings();
        hums();
        undo();
        wobble();
        colour();
        peaks();
        steady();
        steadyMany();
        Due.end();
    }

    private static void pitch() {
        DrawnSounds x = new DrawnSounds();
        Due.sound(x, "tone 8 80 40;");
        Due.same("29: a tone's", x.pitch(0, 0, 40), 8);
        Due.same("29: from within", x.pitch(0, 13, 27), 8);
        Due.same("29: of 16 it is seen", x.pitch(0, 0, 16), 8);
        // of 15 up to 7: sums by pairs; 4 is a half turn, the farthest
        Due.same("29: of 15 it is not", x.pitch(0, 0, 15), 7);
        Due.same("29: 8 of them", x.pitch(0, 0, 8), 4);
        Due.same("29: 7 of them", x.pitch(0, 0, 7), -1);
        Due.same("29: none of them", x.pitch(0, 40, 0), -1);
        Due.thrown("29: one too many", Due.WRONG, () -> x.pitch(0, 33, 8));
        Due.thrown("29: from below 0", Due.WRONG, () -> x.pitch(0, -1, 8));
        Due.thrown("29: fewer than none", Due.WRONG, () -> x.pitch(0, 8, -1));
        Due.thrown("29: from beyond", Due.WRONG, () -> x.pitch(0, 41, 0));
        Due.thrown("29: far too many", Due.WRONG, () -> x.pitch(0, 8, Integer.MAX_VALUE));
        Due.thrown("29: from far beyond", Due.WRONG, () -> x.pitch(0, Integer.MAX_VALUE, 1));
        Due.thrown("29: no such sound", Due.NO_SOUND, () -> x.pitch(1, -1, 8));
        Due.sound(x, "still 300;");
        Due.same("29: of alike ones the least", x.pitch(1, 0, 300), 4);
        Due.sound(x, "tone 60 900 300;");
        Due.same("29: the greatest", x.pitch(2, 0, 120), 60);
        Due.same("29: too few for the greatest", x.pitch(2, 0, 119), 59);
        // a row of 9 by 4: five pairs
        Due.sound(x, "still 4;blow 5 1;still 4;blow 8 1;");
        // by 4: (0, 5) (0, 0) .. 5 + 5 + 8 by 6 pairs; by 5: 5 + 0 .. 5 + 8 by 5 pairs: (0,0)4x, (5,8): 3
        Due.same("29: by how many pairs there are", x.pitch(3, 0, 10), 5);
    }

    private static void turned() {
        DrawnSounds x = new DrawnSounds();
        Due.sound(x, "tone 8 80 40;");
        long[] by8 = {320, -160, 128000, 4};
        // by 4: + + - -, a quarter later + - - +: 0 40 80 40 and its lower half
        long[] by4 = {0, 0, 0, 0};
        // from 2 on: 80 40 0 -40 -80 -40 0 40: 80 + 80; and -40 + 80 less 0 - 40 ..
        long[] from2 = {160, 320, 128000, 1};
        long[] from4 = {-320, 160, 128000, 2};
        long[] from6 = {-160, -320, 128000, 7};
        for (int what = 0; what < 4; what++) {
            Due.same("30: by 8 " + what, x.turned(0, 8, 0, 8, what), by8[what]);
            Due.same("30: by 4 " + what, x.turned(0, 4, 0, 8, what), by4[what]);
            Due.same("30: from 4 " + what, x.turned(0, 8, 4, 8, what), from4[what]);
            Due.same("30: from 2 " + what, x.turned(0, 8, 2, 8, what), from2[what]);
            Due.same("30: from 6 " + what, x.turned(0, 8, 6, 8, what), from6[what]);
            Due.same("30: of none " + what, x.turned(0, 8, 40, 0, what), 0);
        }
        // by 5: the first half are 0, 1, 2; a quarter is 1: 4, 0, 1
        Due.same("30: an odd one", x.turned(0, 5, 0, 5, 0), 0 + 40 + 80 - 40 - 0);
        Due.same("30: an odd one", x.turned(0, 5, 0, 5, 1), 0 + 40 - 80 - 40 + 0);
        Due.sound(x, "blow 2000 1;blow 2000 1;blow 2000 1;");
        Due.same("30: alike is not greater", x.turned(1, 4, 0, 1, 3), 0);
        Due.same("30: a great strength", x.turned(1, 60, 0, 3, 2), 2 * 6000L * 6000L);
        int[][] wrong = {{3, 0, 8, 0}, {61, 0, 8, 0}, {8, -1, 8, 0}, {8, 33, 8, 0}, {8, 0, -1, 0}, {8, 0, 8, 4}, {8, 0, 8, -1}};
        for (int[] w : wrong) {
            Due.thrown("30: wrong", Due.WRONG, () -> x.turned(0, w[0], w[1], w[2], w[3]));
        }
        Due.thrown("30: no such sound", Due.NO_SOUND, () -> x.turned(2, 3, -1, 8, 9));
        Due.sound(x, "tone 60 2000 300;tone 60 2000 300;");
        Due.same("30: strength beyond an int", x.turned(2, 60, 0, 600, 2) > Integer.MAX_VALUE ? 1 : 0, 1);
    }

    private static void sing() {
        DrawnSounds x = new DrawnSounds();
        Due.sound(x, "still 10;blow 7 1;still 8;tone 4 100 4;");
        Due.map(x, "mark 23 23;");
        Due.map(x, "mark 24 30;");
        Due.same("31: sung", x.sing(0, 0, 4, 10), 23);
        Due.result("31: sung", x, 0, 0, 0, 0, 0, 0, 0, 0, 0, 0,
            0, -7, 0, 7, 0, -7, 0, 7, 0, -7, 0, 100, 0);
        Due.map(x, "mark 10 5;mark 20 15;");
        Due.same("31: by a map", x.sing(0, 2, 5, 10), 15);
        // k is t, not the place
        Due.result("31: by a map", x, 0, 0, 0, 0, 0, 0, 5, 2, -2, -5, 0, 5, 2, -2, -5);
        Due.thrown("31: no such sound", Due.NO_SOUND, () -> x.sing(1, 9, 0, 0));
        Due.thrown("31: no such map", Due.NO_MAP, () -> x.sing(0, 3, 0, 0));
        Due.thrown("31: p", Due.WRONG, () -> x.sing(0, 1, 3, 8));
        Due.thrown("31: p", Due.WRONG, () -> x.sing(0, 1, 61, 8));
        Due.thrown("31: w", Due.WRONG, () -> x.sing(0, 1, 4, 7));
        Due.thrown("31: w", Due.WRONG, () -> x.sing(0, 1, 4, 61));
        Due.thrown("31: the map asks for more", Due.UNFIT, () -> x.sing(0, 1, 4, 8));
        Due.same("14: it stays", x.length(), 15);
        Due.sound(x, "still 3;");
        Due.map(x, "mark 3 4;");
        Due.same("31: wide does not matter", x.sing(1, 3, 60, 60), 4);
    }

    private static void jump() {
        DrawnSounds x = new DrawnSounds();
        Due.same("32: of none", x.jump(), 0);
        Due.sound(x, "tone 4 2000 16;");
        Due.map(x, "mark 1 1;");
        Due.map(x, "mark 16 16;");
        x.sing(0, 0, 4, 8);
        Due.same("32: of one", x.jump(), 0);
        x.draw(0, 1);
        Due.same("32: of a tone", x.jump(), 2000);
        Due.sound(x, "blow 2000 1;blow 1 1;still 2;blow 900 2;still 10;");
        x.draw(1, 1);
        Due.same("32: the greatest", x.jump(), 1999);
    }

    private static void crossings() {
        DrawnSounds x = new DrawnSounds();
        // 0 5 0 -5 | 0 5 0 -5 | 0 9 .. ; a begin at 0 is none
        Due.sound(x, "tone 4 5 8;tone 6 9 12;still 1;");
        int[] due = {4, 8, 14, 20};
        for (int k = 0; k < 4; k++) {
            Due.same("33: crossing", x.crossing(0, k), due[k]);
        }
        Due.same("33: none such", x.crossing(0, 4), -1);
        Due.same("33: none such", x.crossing(0, -1), -1);
        Due.thrown("33: no such sound", Due.NO_SOUND, () -> x.crossing(1, 0));
        Due.same("34: period", x.period(0), 533);
        Due.sound(x, "tone 4 5 7;");
        Due.same("33: one", x.crossing(1, 0), 4);
        Due.same("34: no intervals", x.period(1), -1);
        Due.sound(x, "still 9;");
        Due.same("34: no crossings", x.period(2), -1);
        Due.thrown("34: no such sound", Due.NO_SOUND, () -> x.period(3));
    }

    private static void hums() {
        DrawnSounds x = new DrawnSounds();
        Due.sound(x, "tone 8 80 40;");
        Due.sound(x, "still 40;");
        Due.same("36: no hums", x.meant(0, 0), -1);
        Due.same("36: no hums", x.meant(0, 1), -1);
        Due.thrown("35: too small", Due.WRONG, () -> x.hum(399));
        Due.thrown("35: too great", Due.WRONG, () -> x.hum(6001));
        Due.same("35: a hum", x.hum(6000), 1);
        Due.same("36: the only one", x.meant(0, 0), 0);
        Due.same("36: no rival", x.meant(0, 1), -1);
        Due.same("35: a hum", x.hum(400), 2);
        Due.same("36: nearer", x.meant(0, 0), 1);
        Due.same("36: rival", x.meant(0, 1), 5200 - 400);
        Due.same("35: a hum", x.hum(850), 3);
        Due.same("35: a hum", x.hum(750), 4);
        Due.same("36: the first of alike ones", x.meant(0, 0), 2);
        Due.same("36: an alike rival", x.meant(0, 1), 0);
        Due.same("35: a hum", x.hum(790), 5);
        Due.same("36: nearest", x.meant(0, 0), 4);
        Due.same("36: rival", x.meant(0, 1), 40);
        Due.same("36: no period", x.meant(1, 0), -1);
        Due.same("36: no period", x.meant(1, 1), -1);
        Due.same("35: a hum", x.hum(800), 6);
        Due.same("35: a hum too many", x.hum(800), -1);
        Due.thrown("35: wrong ones come first", Due.WRONG, () -> x.hum(399));
        Due.thrown("36: another what", Due.WRONG, () -> x.meant(1, 2));
        Due.thrown("36: another what", Due.WRONG, () -> x.meant(0, -1));
        Due.thrown("36: no such sound", Due.NO_SOUND, () -> x.meant(2, 2));
        Due.same("55: hums", x.count(5), 6);
    }

    private static void undo() {
        DrawnSounds x = new DrawnSounds();
        Due.sound(x, "tone 8 80 40;");
        Due.sound(x, "still 40;");
        Due.sound(x, "tone 4 80 300;tone 4 80 300;");
        Due.same("37: undone", x.undo(0, 1000), 0);
        Due.same("8: to", x.told(0, 1), 50);
        Due.same("8: from", x.told(0, 2), 40);
        Due.same("37: cut", x.undo(0, 419), 1);
        Due.same("8: to", x.told(1, 1), 20);
        Due.same("37: 1,200 at most", x.undo(2, 6000), 2);
        Due.same("8: to", x.told(2, 1), 1200);
        Due.same("37: no period", x.undo(1, 1000), -2);
        Due.thrown("37: too small", Due.WRONG, () -> x.undo(1, 399));
        Due.thrown("37: too great", Due.WRONG, () -> x.undo(0, 6001));
        Due.thrown("37: no such sound", Due.NO_SOUND, () -> x.undo(3, 1));
        x.undo(0, 400);
        x.undo(0, 400);
        Due.same("37: there are five", x.undo(0, 400), -1);
        Due.same("37: -1 ahead of -2", x.undo(1, 400), -1);
        Due.thrown("37: wrong ones come first", Due.WRONG, () -> x.undo(0, 399));
    }

    private static void wobble() {
        DrawnSounds x = new DrawnSounds();
        // intervals of 4 and 8 in turns
        Due.sound(x, "tone 4 5 4;tone 4 5 4;tone 8 5 8;tone 4 5 4;tone 8 5 8;tone 4 5 4;tone 8 5 8;still 1;");
        Due.same("38: turns of two", x.wobble(0, 0), 2);
        Due.same("38: swing", x.wobble(0, 1), 4);
        // 4, 8, 4 alone: a turn of 1 at most
        Due.sound(x, "tone 4 5 8;tone 8 5 8;tone 4 5 4;still 1;");
        Due.same("38: half of three is one", x.wobble(1, 0), 1);
        Due.sound(x, "tone 8 80 40;");
        Due.same("38: of alike ones the least", x.wobble(2, 0), 1);
        Due.same("38: no swing", x.wobble(2, 1), 0);
        Due.sound(x, "tone 4 5 9;");
        Due.same("38: one interval", x.wobble(3, 0), -1);
        Due.same("38: one interval", x.wobble(3, 1), -1);
        Due.sound(x, "tone 4 5 13;");
        Due.same("38: two intervals", x.wobble(4, 0), 1);
        Due.thrown("38: another what", Due.WRONG, () -> x.wobble(3, 2));
        Due.thrown("38: another what", Due.WRONG, () -> x.wobble(0, -1));
        Due.thrown("38: no such sound", Due.NO_SOUND, () -> x.wobble(5, 2));
    }

    private static void colour() {
        DrawnSounds x = new DrawnSounds();
        Due.sound(x, "tone 4 10 4;tone 4 30 4;blow 50 1;");
        // no result: steps of 4 and one more
        Due.same("44: without result", x.colour(0, 4), 10 + 30 + 50);
        Due.same("44: without result", x.colour(0, 8), 30 + 50);
        Due.sound(x, "tone 4 20 16;");
        Due.map(x, "mark 16 14;");
        x.sing(1, 0, 4, 8);
        Due.same("44: by both", x.colour(0, 4), 10 + 10 + 30 + 20);
        Due.same("44: by both", x.colour(0, 8), 10 + 30);
        Due.same("44: all in one", x.colour(0, 60), 30);
        Due.thrown("44: w", Due.WRONG, () -> x.colour(0, 3));
        Due.thrown("44: w", Due.WRONG, () -> x.colour(0, 61));
        Due.thrown("44: no such sound", Due.NO_SOUND, () -> x.colour(2, 3));
        // a negative one is as loud
        Due.sound(x, "still 4;tone 4 25 4;");
        Due.map(x, "mark 7 7;");
        Due.same("44: without sign", x.colour(2, 4), 20 + 5 + 20 + 20);
    }

    private static void peaks() {
        DrawnSounds x = new DrawnSounds();
        Due.sound(x, "tone 8 80 40;tone 20 70 100;");
        long strongest = -1;
        int due = -1;
        for (int p = 4; p <= 60; p++) {
            long strength = x.turned(0, p, 0, 140, 2);
            if (strength > strongest) {
                strongest = strength;
                due = p;
            }
        }
        Due.same("45: the strongest", x.peak(0, 0, 140, 0), due);
        Due.same("45: a tone's", x.peak(0, 40, 100, 0), 20);
        Due.same("45: a tone's", x.peak(0, 0, 40, 0), 8);
        Due.same("45: none such", x.peak(0, 0, 140, -1), -1);
        Due.same("45: none such", x.peak(0, 0, 140, 29), -1);
        long ahead = Long.MAX_VALUE;
        for (int k = 0; x.peak(0, 0, 140, k) != -1; k++) {
            int p = x.peak(0, 0, 140, k);
            long own = x.turned(0, p, 0, 140, 2);
            Due.same("45: the greater ones first", own <= ahead ? 1 : 0, 1);
            Due.same("45: above the one below", p == 4 || own > x.turned(0, p - 1, 0, 140, 2) ? 1 : 0, 1);
            Due.same("45: not below the one above", p == 60 || own >= x.turned(0, p + 1, 0, 140, 2) ? 1 : 0, 1);
            ahead = own;
        }
        Due.same("45: from one on", x.peak(0, 8, 32, 0), 8);
        Due.sound(x, "still 20;blow 9 1;still 20;");
        // alike for all that see it alike: 4 is the first of them
        Due.same("45: silence has one at 4", x.peak(1, 0, 20, 0), 4);
        Due.same("45: silence has no more", x.peak(1, 0, 20, 1), -1);
        Due.same("45: of alike ones the least", x.peak(1, 0, 41, 0), 4);
        Due.same("46: of silence", x.lock(1, 60, 0, 20), 4);
        locks();
        Due.thrown("45: not in the sound", Due.WRONG, () -> x.peak(0, 0, 141, 0));
        Due.thrown("45: not in the sound", Due.WRONG, () -> x.peak(0, -1, 5, 0));
        Due.thrown("45: not in the sound", Due.WRONG, () -> x.peak(0, 5, -1, 0));
        Due.thrown("45: no such sound", Due.NO_SOUND, () -> x.peak(2, 0, 141, 0));
        Due.thrown("46: not in the sound", Due.WRONG, () -> x.lock(0, 8, 0, 141));
        Due.thrown("46: p", Due.WRONG, () -> x.lock(0, 3, 0, 140));
        Due.thrown("46: p", Due.WRONG, () -> x.lock(0, 61, 0, 140));
        Due.thrown("46: no such sound", Due.NO_SOUND, () -> x.lock(2, 3, 0, 141));
    }

    private static void locks() {
        for (int p = 4; p <= 60; p++) {
            DrawnSounds x = again();
            int nearest = -1;
            for (int k = 0; x.peak(0, 0, 40, k) != -1; k++) {
                int peak = x.peak(0, 0, 40, k);
                int by = Math.abs(peak - p) - Math.abs(nearest - p);
                nearest = nearest == -1 || by < 0 || by == 0 && peak < nearest ? peak : nearest;
            }
            Due.same("46: locked " + p, x.lock(0, p, 0, 40), nearest);
        }
    }

    /** Another object with the same sound, as one is used for 512 calls at most. */
    private static DrawnSounds again() {
        DrawnSounds x = new DrawnSounds();
        Due.sound(x, "tone 8 80 40;tone 20 70 100;");
        return x;
    }

    private static void steady() {
        DrawnSounds x = new DrawnSounds();
        // crossings at 4, 8, 16, 24, 28 of 31
        Due.sound(x, "tone 4 5 8;tone 8 5 16;tone 4 5 4;still 3;");
        Due.same("47: steady", x.steady(0), 0);
        Due.same("8: marks", x.told(0, 0), 6);
        Due.same("8: as long", x.told(0, 1), 31);
        Due.same("8: all", x.told(0, 2), 31);
        int[][] due = {{4, 4}, {8, 10}, {16, 16}, {24, 22}, {28, 28}};
        for (int[] mark : due) {
            Due.same("47: the place of " + mark[1], x.place(0, mark[1]), mark[0]);
        }
        Due.same("47: between", x.place(0, 9), 7);
        Due.same("47: behind", x.place(0, 30), 30);
        Due.sound(x, "tone 4 5 7;");
        Due.same("47: one crossing", x.steady(1), -2);
        Due.thrown("47: no such sound", Due.NO_SOUND, () -> x.steady(2));
        for (int k = 1; k < 5; k++) {
            Due.same("47: again", x.steady(0), k);
        }
        Due.same("47: there are five", x.steady(0), -1);
        Due.same("47: -1 ahead of -2", x.steady(1), -1);
    }

    private static void steadyMany() {
        DrawnSounds x = new DrawnSounds();
        int[] crossings = {11, 12, 13, 23, 24};
        // all 11; 0, 2 .. 10 and 11; 0, 2 .. 12; 0, 3 .. 21 and 22; 0, 3 .. 21 and 23; and the end
        int[] marks = {12, 8, 8, 10, 10};
        for (int k = 0; k < 5; k++) {
            Due.sound(x, "tone 4 9 " + (4 * crossings[k] + 1) + ";");
            Due.same("33: as many", x.crossing(k, crossings[k]), -1);
            Due.same("33: as many", x.crossing(k, crossings[k] - 1), 4 * crossings[k]);
            Due.same("47: steady", x.steady(k), k);
            Due.same("47: marks of " + crossings[k], x.told(k, 0), marks[k]);
        }
        DrawnSounds y = new DrawnSounds();
        // 22 crossings: every second, 0 to 20, are 11; the last one stands in place of 20
        Due.sound(y, "tone 4 9 80;tone 8 9 8;still 1;");
        Due.same("33: the last one", y.crossing(0, 20), 88);
        Due.sound(y, "tone 4 9 84;tone 8 9 8;still 1;");
        Due.same("33: the last one", y.crossing(1, 21), 92);
        Due.same("47: every second of 21", y.steady(0), 0);
        Due.same("8: 0, 2 .. 20 and the end", y.told(0, 0), 12);
        Due.same("47: every second of 22", y.steady(1), 1);
        Due.same("8: 0, 2 .. 18, 21 and the end", y.told(1, 0), 12);
        Due.same("10: 18 is moved", y.where(1, 76), 4 + 88 * 18 / 21);
        Due.same("10: 21 is not", y.where(1, 92), 92);
        // between them 20 crosses at 84, no mark: 16 samples in 13
        Due.same("9: where 20 would be", y.place(1, 4 + 88 * 20 / 21), 76 + 16 * (87 - 79) / 13);
    }
}
