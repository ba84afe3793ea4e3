/** Promises 39 to 43 and 48: beats, loops, joins, pitch moved, films. */
public final class BeatTest {
    public static void main(String[] args) {
        beats();
        onto();
        ontoMany();
        ontoEleven();
        justAsLong();
        loops();
        joins();
        joinRefusals();
        shifts();
        films();
        Due.end();
    }

    private static void beats() {
        DrawnSounds x = new DrawnSounds();
        Due.sound(x, "still 10;blow 800 8;still 20;blow 600 8;still 14;");
        Due.same("39: p", x.beat(0, 0), 28);
        Due.same("39: a", x.beat(0, 1), 10);
        Due.same("39: off", x.beat(0, 2), 0);
        Due.thrown("39: another what", Due.WRONG, () -> x.beat(0, 3));
        Due.thrown("39: another what", Due.WRONG, () -> x.beat(0, -1));
        Due.thrown("39: no such sound", Due.NO_SOUND, () -> x.beat(1, 3));
        Due.sound(x, "still 10;blow 800 8;still 20;");
        Due.same("39: one blow", x.beat(1, 0), -1);
        Due.thrown("39: another what comes first", Due.WRONG, () -> x.beat(1, 3));
        x.blowing(700, 3, 8);
        Due.same("39: by blows as they are told", x.beat(0, 2), -1);
        x.blowing(200, 3, 8);
        // two blows 230 apart: 115 is the greatest that divides it
        Due.sound(x, "blow 900 1;still 229;blow 900 1;");
        Due.same("39: p", x.beat(2, 0), 115);
        Due.same("39: a", x.beat(2, 1), 0);
        // 211 apart, a prime: off 11 by 200 is more than 1 by 105 .. 2 by 200 is less than all
        Due.sound(x, "still 5;blow 900 1;still 201;blow 900 1;");
        Due.same("39: p", x.beat(3, 0), 101);
        Due.same("39: off", x.beat(3, 2), 0);
        Due.sound(x, "still 5;blow 900 1;still 198;blow 900 1;still 198;blow 900 1;");
        // 199 and 199 apart
        Due.same("39: p", x.beat(4, 0), 199);
        Due.same("39: a", x.beat(4, 1), 5);
    }

    private static void onto() {
        DrawnSounds x = new DrawnSounds();
        Due.sound(x, "still 10;blow 800 8;still 20;blow 600 8;still 14;");
        Due.same("40: onto", x.onto(0, 50), 0);
        Due.same("8: marks", x.told(0, 0), 3);
        Due.same("8: length", x.told(0, 1), 122);
        Due.same("8: all", x.told(0, 2), 60);
        Due.same("10: the first", x.where(0, 10), 50);
        Due.same("10: the second", x.where(0, 38), 100);
        Due.thrown("40: q", Due.WRONG, () -> x.onto(0, 0));
        Due.thrown("40: q", Due.WRONG, () -> x.onto(0, 201));
        Due.thrown("40: no such sound", Due.NO_SOUND, () -> x.onto(1, 0));
        Due.sound(x, "still 10;blow 800 8;still 20;");
        Due.same("40: one blow", x.onto(1, 50), -2);
        Due.same("40: the least", x.onto(0, 1), 1);
        Due.same("8: length", x.told(1, 1), 2 + 22);
        for (int k = 2; k < 5; k++) {
            Due.same("40: again", x.onto(0, 50), k);
        }
        Due.same("40: there are five", x.onto(0, 50), -1);
        Due.same("40: -1 ahead of -2", x.onto(1, 50), -1);
    }

    private static void ontoMany() {
        DrawnSounds x = new DrawnSounds();
        // blows at 0, 20, .. 140
        Due.sound(x, "blow 900 1;still 19;blow 900 1;still 19;blow 900 1;still 19;blow 900 1;still 19;"
            + "blow 900 1;still 19;blow 900 1;still 19;blow 900 1;still 19;blow 900 1;still 1;");
        Due.same("39: p", x.beat(0, 0), 20);
        // the first at 0 makes no mark; the second one is number 1
        Due.same("40: onto", x.onto(0, 30), 0);
        Due.same("8: marks", x.told(0, 0), 8);
        Due.same("9: the second", x.place(0, 60), 20);
        Due.same("8: length", x.told(0, 1), 240 + 2);
        Due.same("40: 1,202", x.onto(0, 150), -2);
        Due.same("40: 1,194", x.onto(0, 149), 1);
        Due.same("8: length", x.told(1, 1), 149 * 8 + 2);
        // 0, 49, 99, 149 by 50 from 49 on: the first is 49 below the start, (50 less 98) by 100 is 0
        Due.sound(x, "blow 900 1;still 48;blow 900 1;still 49;blow 900 1;still 49;blow 900 1;");
        Due.same("39: p", x.beat(1, 0), 50);
        Due.same("39: a", x.beat(1, 1), 49);
        Due.same("39: off", x.beat(1, 2), 1);
        Due.same("40: below the start", x.onto(1, 10), 2);
        Due.same("10: number 0 as the first", x.where(2, 49), 10);
        Due.same("10: number 1", x.where(2, 99), 20);
    }

    private static void ontoEleven() {
        DrawnSounds x = new DrawnSounds();
        // the greatest of both signs, 4 apart: 1, 5 .. 57: 11 marks and the end
        Due.sound(x, "tone 4 9 60;");
        x.blowing(9, 1, 3);
        Due.same("19: fifteen", x.blow(0, 14), 57);
        Due.same("39: p", x.beat(0, 0), 4);
        Due.same("40: onto", x.onto(0, 10), 0);
        Due.same("8: eleven and the end", x.told(0, 0), 12);
        Due.same("8: all", x.told(0, 2), 60);
        Due.same("8: the rest as it is", x.told(0, 1), 110 + 19);
        Due.same("9: the eleventh", x.place(0, 110), 41);
        // 3 and 12 and 20: 8 or 9 apart, and 2 of 200 starts are as near to all
        Due.sound(x, "still 3;blow 900 1;still 8;blow 900 1;still 7;blow 900 1;");
        Due.same("39: all on one", x.beat(1, 0), 200);
        Due.same("39: the middle one", x.beat(1, 1), 12);
        Due.same("39: off", x.beat(1, 2), 9 + 8);
        Due.same("40: just the first rises", x.onto(1, 10), 1);
        Due.same("8: the first and the end", x.told(1, 0), 2);
        Due.same("9: the first", x.place(1, 10), 3);
    }

    private static void justAsLong() {
        DrawnSounds x = new DrawnSounds();
        // 0, 20 .. 100: the last of six at 6 times 150, and 300 or 301 behind
        String six = "blow 900 1;still 19;blow 900 1;still 19;blow 900 1;still 19;"
            + "blow 900 1;still 19;blow 900 1;still 19;blow 900 1;";
        Due.sound(x, six + "still 299;");
        Due.sound(x, six + "still 300;");
        Due.same("40: just 1,200", x.onto(0, 150), 0);
        Due.same("8: just 1,200", x.told(0, 1), 1200);
        Due.same("40: 1,201", x.onto(1, 150), -2);
    }

    private static void loops() {
        DrawnSounds x = new DrawnSounds();
        Due.sound(x, "tone 8 80 40;");
        x.pieces(8, 2, 0);
        Due.same("41: from", x.loop(0, 8, 0), 0);
        Due.same("41: to", x.loop(0, 8, 1), 32);
        Due.same("41: sum", x.loop(0, 8, 2), 0);
        // 33 long are 40 and 40 apart, as 35 from 0 on; 36 from 0 on 0 and 80, 38 80 and 80
        Due.same("41: at least 33: sum", x.loop(0, 33, 2), 80);
        Due.same("41: at least 33: the longest", x.loop(0, 33, 1), 36);
        Due.same("41: at least 33: the first", x.loop(0, 33, 0), 0);
        Due.same("41: at least 38", x.loop(0, 38, 0), 0);
        Due.same("41: at least 38", x.loop(0, 38, 1), 38);
        Due.same("41: at least 38", x.loop(0, 38, 2), 80 + 80);
        Due.same("41: none", x.loop(0, 39, 0), -1);
        Due.same("41: none", x.loop(0, 600, 2), -1);
        Due.thrown("41: how long", Due.WRONG, () -> x.loop(0, 0, 0));
        Due.thrown("41: how long", Due.WRONG, () -> x.loop(0, 601, 0));
        Due.thrown("41: another what", Due.WRONG, () -> x.loop(0, 39, 3));
        Due.thrown("41: another what", Due.WRONG, () -> x.loop(0, 39, -1));
        Due.thrown("41: no such sound", Due.NO_SOUND, () -> x.loop(1, 0, 0));
        Due.sound(x, "blow 9 1;blow 5 1;blow 6 1;blow 5 1;blow 6 1;blow 8 1;blow 5 1;blow 6 1;");
        // 5, 6 at 1, 3 and 6: the longest is 5
        Due.same("41: from", x.loop(1, 1, 0), 1);
        Due.same("41: to", x.loop(1, 1, 1), 6);
        x.pieces(8, 4, 0);
        Due.same("41: none", x.loop(1, 5, 0), -1);
        Due.same("41: with over samples from to on", x.loop(1, 4, 1), 4);
        Due.sound(x, "still 3;");
        Due.same("41: fewer than over", x.loop(2, 1, 0), -1);
    }

    private static void joins() {
        DrawnSounds x = new DrawnSounds();
        x.pieces(8, 2, 3);
        Due.sound(x, "blow 10 1;blow 20 1;blow 30 1;blow 40 1;blow 50 1;blow 60 1;");
        Due.sound(x, "blow 30 1;blow 44 1;blow 7 1;");
        Due.same("42: joined", x.join(0, 1), 2);
        // o 2: 30, 40; (40 + 44) by 2
        Due.samples("42: joined", x, 2, 10, 20, 30, 42, 7);
        x.pieces(8, 2, 1);
        Due.same("42: not sought as far", x.join(0, 1), 3);
        Due.samples("42: not sought as far", x, 3, 10, 20, 30, 40, (50 + 44) / 2, 7);
        x.pieces(8, 2, 20);
        Due.same("42: of alike ones the least o", x.join(1, 1), 4);
        // o 0: 14 + 37; o 1: 0 + 0; no further back
        Due.samples("42: not ahead of the begin", x, 4, 30, 44, 7);
        Due.same("42: there are five", x.join(0, 1), -1);
        Due.same("14: no result comes of it", x.length(), 0);
    }

    private static void joinRefusals() {
        DrawnSounds x = new DrawnSounds();
        Due.sound(x, "still 3;");
        Due.sound(x, "still 300;still 300;");
        Due.sound(x, "still 4;");
        Due.thrown("42: no such sound", Due.NO_SOUND, () -> x.join(0, 3));
        Due.thrown("42: no such sound", Due.NO_SOUND, () -> x.join(3, 0));
        Due.thrown("42: no such sound", Due.NO_SOUND, () -> x.join(-1, 0));
        Due.same("42: the first has fewer than over", x.join(0, 2), -2);
        Due.same("42: the second has fewer than over", x.join(2, 0), -2);
        Due.same("42: just 600", x.join(1, 2), 3);
        Due.same("6: just 600", x.size(3), 600);
        x.pieces(16, 3, 0);
        Due.same("42: longer than 600", x.join(1, 2), -2);
        Due.same("42: both just over", x.join(0, 0), 4);
        Due.same("6: both just over", x.size(4), 3);
        Due.same("42: -1 ahead of -2", x.join(1, 2), -1);
    }

    private static void shifts() {
        DrawnSounds x = new DrawnSounds();
        Due.sound(x, DrawTest8.EIGHT);
        x.pieces(4, 1, 0);
        Due.same("43: as it is", x.shift(0, 1, 1), 2);
        Due.result("43: as it is", x, 10, 20, 30, 40, 50, 60, 70, 60);
        // 16 samples: 10 15 20 .. 80 40; drawn back to 8: PLACES 0, 6, 12
        Due.same("43: lower", x.shift(0, 1, 2), 2);
        Due.result("43: lower", x, 10, 15, 20, 25, 45, 50, 55, 75);
        Due.same("21: its harm", x.harm(0), Math.abs(25 - 40) + Math.abs(55 - 70));
        Due.same("16: its seams", x.seam(1, 2), 15);
        // 4 samples: 10 30 50 70
        Due.same("43: higher", x.shift(0, 2, 1), 2);
        Due.result("43: higher", x, 10, 30, 50, 70, 30, 50, 70, 30);
        Due.same("14: the result", x.length(), 8);
        Due.same("17: it may be kept", x.keep(), 1);
        Due.thrown("43: fewer than wide", Due.UNFIT, () -> x.shift(0, 9, 4));
        Due.thrown("43: none", Due.UNFIT, () -> x.shift(0, 9, 1));
        int[][] wrong = {{0, 1}, {10, 1}, {1, 0}, {1, 10}};
        for (int[] w : wrong) {
            Due.thrown("43: " + w[0] + " " + w[1], Due.WRONG, () -> x.shift(0, w[0], w[1]));
        }
        Due.thrown("43: no such sound", Due.NO_SOUND, () -> x.shift(2, 0, 0));
        Due.sound(x, "still 300;");
        Due.same("43: just 600", x.shift(2, 1, 2), 99);
        Due.same("14: as many as the sound has", x.length(), 300);
        Due.thrown("43: 900", Due.UNFIT, () -> x.shift(2, 1, 3));
        Due.thrown("43: 2,700", Due.UNFIT, () -> x.shift(2, 1, 9));
        Due.sound(x, "blow 8 1;tone 4 8 8;");
        // 8 0 8 0 -8 0 8 0 -8 by 2, 3: 13 samples, at 0, 2/3, 4/3, 2 ..
        x.pieces(13, 1, 0);
        Due.same("43: cut toward 0", x.shift(3, 2, 3), 0);
        Due.result("43: cut toward 0", x, 8, 2, 2, 8, 2, -2, -8, -2, 2);
    }

    private static void films() {
        DrawnSounds x = new DrawnSounds();
        Due.sound(x, "still 40;");
        Due.same("48: a film", x.film(0, 50, 2), 0);
        Due.same("8: marks", x.told(0, 0), 1);
        Due.same("8: length", x.told(0, 1), 100);
        Due.same("8: all", x.told(0, 2), 40);
        Due.same("48: 1,200", x.film(0, 1200, 1), 1);
        Due.same("48: 1,206", x.film(0, 603, 2), -2);
        Due.same("48: the most", x.film(0, 1200, 99), -2);
        int[][] wrong = {{0, 1}, {1201, 1}, {1, 0}, {1, 100}};
        for (int[] w : wrong) {
            Due.thrown("48: " + w[0] + " " + w[1], Due.WRONG, () -> x.film(0, w[0], w[1]));
        }
        Due.thrown("48: no such sound", Due.NO_SOUND, () -> x.film(1, 0, 0));
        Due.same("48: one", x.film(0, 1, 1), 2);
        x.film(0, 1, 99);
        x.film(0, 12, 99);
        Due.same("48: there are five", x.film(0, 1, 1), -1);
        Due.same("48: -1 ahead of -2", x.film(0, 1200, 99), -1);
    }

    /** Eight samples, ten more each. */
    private static final class DrawTest8 {
        static final String EIGHT =
            "blow 10 1;blow 20 1;blow 30 1;blow 40 1;blow 50 1;blow 60 1;blow 70 1;blow 80 1;";
    }
}
