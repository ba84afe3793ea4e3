/** Promises 18 to 25: blows, harm, ways. */
public final class HarmTest {
    public static void main(String[] args) {
        blowing();
        blows();
        harms();
        harmWhen();
        counts();
        ways();
        betweenMarks();
        bestRefusals();
        Due.end();
    }

    private static void blowing() {
        DrawnSounds x = new DrawnSounds();
        Due.same("18: at first", x.blowing(1, 1, 1), 200);
        Due.same("18: then", x.blowing(2047, 20, 40), 1);
        int[][] wrong = {{0, 3, 8}, {2048, 3, 8}, {200, 0, 8}, {200, 21, 8}, {200, 3, 0}, {200, 3, 41}, {-200, 3, 8}};
        for (int[] w : wrong) {
            Due.thrown("18: " + w[0] + " " + w[1] + " " + w[2], Due.WRONG, () -> x.blowing(w[0], w[1], w[2]));
        }
        Due.same("18: none was taken", x.blowing(200, 3, 8), 2047);
    }

    private static void found(String what, DrawnSounds x, int sound, int... due) {
        for (int k = 0; k <= due.length; k++) {
            Due.same(what + ": blow " + k, x.blow(sound, k), k < due.length ? due[k] : -1);
        }
    }

    private static void blows() {
        DrawnSounds x = new DrawnSounds();
        Due.sound(x, "blow 50 1;blow 100 1;blow 200 1;blow 400 1;still 1;blow 799 1;blow 801 1;");
        x.blowing(100, 2, 2);
        // 400 is twice 200, but 100 is a blow among the two ahead; 799 is not twice 400
        found("19: by 100, 2, 2", x, 0, 1);
        x.blowing(100, 2, 1);
        // 200 is behind the blow of 100; 400 is twice 200; 799 is behind 0
        found("19: by 100, 2, 1", x, 0, 1, 3, 5);
        x.blowing(101, 2, 1);
        found("19: below the floor", x, 0, 2, 5);
        x.blowing(50, 2, 1);
        found("19: of none it is 0", x, 0, 0, 2, 5);
        x.blowing(500, 2, 2);
        // 799 is not twice the 400 that stands two ahead
        found("19: not the times of what is ahead", x, 0);
        x.blowing(500, 1, 1);
        found("19: 801 is behind a blow", x, 0, 5);
        x.blowing(800, 1, 2);
        found("19: 801 is as great as those ahead", x, 0, 6);
        Due.same("19: none below 0", x.blow(0, -1), -1);
        Due.thrown("19: no such sound", Due.NO_SOUND, () -> x.blow(1, 0));
        Due.thrown("19: no such sound", Due.NO_SOUND, () -> x.blow(-1, 0));
        Due.sound(x, "tone 4 300 8;");
        x.blowing(300, 1, 1);
        // without signs: 0, 300, 0, -300, ..
        found("19: without signs", x, 1, 1, 3, 5, 7);
        x.blowing(300, 1, 2);
        found("19: further apart than width", x, 1, 1, 5);
        Due.same("20: no result yet", x.blows(), 0);
        x.pieces(8, 2, 0);
        Due.map(x, "mark 8 8;");
        x.sing(1, 0, 4, 8);
        Due.same("20: of the result", x.blows(), 2);
        x.blowing(300, 1, 1);
        Due.same("20: as they are told now", x.blows(), 4);
        x.blowing(301, 1, 1);
        Due.same("20: none as great", x.blows(), 0);
    }

    private static void harms() {
        DrawnSounds x = new DrawnSounds();
        Due.sound(x, "still 20;blow 800 1;still 19;");
        Due.map(x, "mark 40 80;");
        x.pieces(8, 2, 0);
        x.blowing(200, 3, 2);
        x.draw(0, 0);
        int[] drawn = {0, 1, 1, 800, 1400};
        int[] sharp = {0, 0, 1, 800, 1300};
        for (int what = 0; what <= 4; what++) {
            Due.same("21: drawn " + what, x.harm(what), drawn[what]);
        }
        Due.same("20: two blows", x.blows(), 2);
        x.sharp(0, 0);
        for (int what = 0; what <= 4; what++) {
            Due.same("21: sharp " + what, x.harm(what), sharp[what]);
        }
        x.blowing(200, 3, 8);
        // the three come within 8: one blow; at 17, 19, 20 there are no 8 samples of 0
        Due.same("21: doubled by another width", x.harm(2), 0);
        Due.same("21: ring by another width", x.harm(3), 0);
        x.blowing(801, 3, 2);
        Due.same("21: no blows by another floor", x.harm(1), 0);
        Due.same("21: ring asks for no blows", x.harm(3), 800);
        Due.thrown("21: another what", Due.WRONG, () -> x.harm(5));
        Due.thrown("21: another what", Due.WRONG, () -> x.harm(-1));
        halves();
        ringBehindTheEnd();
    }

    /** Half a blow of 201 is 101 or more, not 100. */
    private static void halves() {
        DrawnSounds x = new DrawnSounds();
        Due.sound(x, "still 4;blow 201 1;blow 100 1;blow 101 1;still 5;");
        Due.map(x, "mark 12 5;");
        Due.map(x, "mark 12 12;");
        x.blowing(200, 1, 4);
        x.pieces(4, 1, 0);
        x.draw(0, 1);
        Due.same("21: alike", x.harm(1), 0);
        // r 3: PLACE 7; the blow's WHERE is 2, where 0, 0, 0 stand; its own halves are 2
        x.draw(0, 0);
        Due.same("10: where", x.where(0, 4), 2);
        Due.same("21: the sound's own are two", x.harm(1), 2);
    }

    private static void ringBehindTheEnd() {
        DrawnSounds x = new DrawnSounds();
        Due.sound(x, "blow 7 1;blow 9 1;blow 5 1;still 2;");
        Due.map(x, "mark 5 10;");
        x.pieces(4, 1, 0);
        x.blowing(200, 3, 40);
        x.draw(0, 0);
        // PLACES 3 and 4 stand at 6 to 9: 0 there and behind the end
        int due = 0;
        for (int t = 6; t < 10; t++) {
            due += x.result(t);
        }
        Due.same("21: something rings", due > 0 ? 1 : 0, 1);
        Due.same("21: ring behind the end", x.harm(3), due);
    }

    private static void harmWhen() {
        DrawnSounds x = new DrawnSounds();
        for (int what = 0; what <= 4; what++) {
            Due.same("21: nothing yet", x.harm(what), -1);
        }
        Due.thrown("21: another what comes first", Due.WRONG, () -> x.harm(5));
        Due.sound(x, "tone 9 90 40;");
        Due.map(x, "mark 40 50;");
        x.draw(0, 0);
        int seams = x.harm(0);
        Due.same("21: of all seams", seams, x.seam(0, 2) + x.seam(1, 2) + x.seam(2, 2) + x.seam(3, 2));
        x.sing(0, 0, 9, 10);
        for (int what = 0; what <= 4; what++) {
            Due.same("21: sung since", x.harm(what), -1);
        }
        Due.same("16: no seams", x.seam(0, 0), -5000);
        Due.same("55: no seams", x.count(2), 0);
        x.sharp(0, 0);
        Due.same("21: sharp again", x.harm(0), seams);
        Due.thrown("31: refused", Due.WRONG, () -> x.sing(0, 0, 3, 10));
        Due.same("21: it stays", x.harm(0), seams);
        x.best(0, 0);
        x.lost(0, 0, 0);
        Due.same("21: it stays", x.harm(0), seams);
    }

    private static void counts() {
        DrawnSounds x = new DrawnSounds();
        int[] first = {1, 100, 500, 1};
        for (int k = 0; k < 4; k++) {
            Due.same("22: at first", x.weigh(k, 0), first[k]);
            Due.same("22: then", x.weigh(k, 999), 0);
        }
        int[][] wrong = {{-1, 5}, {4, 5}, {0, -1}, {0, 1000}};
        for (int[] w : wrong) {
            Due.thrown("22: " + w[0] + " " + w[1], Due.WRONG, () -> x.weigh(w[0], w[1]));
        }
        Due.same("22: none was taken", x.weigh(0, 999), 999);
        // half of all samples fade into others, far from them, all along a length of 1,200
        Due.sound(x, "hiss 2000 300 1;hiss 2000 300 2;hum 4 2000;");
        Due.map(x, "mark 600 1200;");
        x.pieces(64, 32, 0);
        x.draw(0, 0);
        Due.same("21: a great harm", x.harm(0) > 1001001 ? 1 : 0, 1);
        Due.same("21: counted at most", x.harm(4), 1000000000);
    }

    private static void ways() {
        DrawnSounds x = new DrawnSounds();
        Due.sound(x, "tone 8 80 40;");
        Due.map(x, "mark 20 20;mark 40 44;");
        Due.same("24: no ways", x.best(0, 0), -1);
        Due.same("25: no ways", x.bestOf(0, 0, 1), -1);
        Due.same("23: a way", x.way(8, 2, 0), 0);
        Due.same("23: a way", x.way(8, 2, 8), 1);
        Due.same("23: the same once more", x.way(8, 2, 8), 2);
        Due.same("55: ways", x.count(3), 3);
        Due.thrown("23: none such", Due.WRONG, () -> x.way(3, 1, 0));
        Due.thrown("23: none such", Due.WRONG, () -> x.way(8, 5, 0));
        Due.thrown("23: none such", Due.WRONG, () -> x.way(8, 0, 0));
        Due.thrown("23: none such", Due.WRONG, () -> x.way(8, 2, 21));
        Due.thrown("23: none such", Due.WRONG, () -> x.way(65, 2, 2));
        Due.same("24: the better one, the first of alike ones", x.best(0, 0), 1);
        Due.same("25: alike ahead of 20", x.bestOf(0, 0, 0), 0);
        Due.same("25: the better one from 20 on", x.bestOf(0, 0, 1), 1);
        Due.thrown("25: no such part", Due.WRONG, () -> x.bestOf(0, 0, 2));
        Due.thrown("25: no such part", Due.WRONG, () -> x.bestOf(0, 0, -1));
        x.weigh(0, 0);
        Due.same("24: by what harm counts", x.best(0, 0), 0);
        Due.same("25: not by what harm counts", x.bestOf(0, 0, 1), 1);
        Due.same("11: the pieces stay", x.pieces(16, 4, 3), 16);
        Due.same("14: the result stays", x.length(), 0);
        Due.same("23: a way", x.way(4, 1, 0), 3);
        Due.same("23: a way too many", x.way(4, 1, 0), -1);
        Due.thrown("23: none such comes first", Due.WRONG, () -> x.way(4, 3, 0));
    }

    /** A seam at the first mark's T is of the part behind it, not of the one ahead. */
    private static void betweenMarks() {
        DrawnSounds x = new DrawnSounds();
        Due.sound(x, "still 8;blow 90 1;blow 80 1;blow 1000 1;still 9;");
        Due.map(x, "mark 8 6;mark 10 8;mark 20 20;");
        // by 4, 2 seams stand at 2, 4, 6 ..; by 5, 1 at 4, 8 ..
        x.way(4, 2, 0);
        x.way(5, 1, 0);
        x.pieces(4, 2, 0);
        x.draw(0, 0);
        Due.same("16: r", x.seam(2, 0), 6);
        Due.same("16: unlike at 4", x.seam(1, 2), 0);
        Due.same("16: unlike at 6", x.seam(2, 2), 90 + 10);
        Due.same("16: unlike at 8", x.seam(3, 2), 0);
        x.pieces(5, 1, 0);
        x.draw(0, 0);
        Due.same("16: unlike at 4", x.seam(0, 2), 0);
        Due.same("16: r", x.seam(1, 0), 8);
        Due.same("16: unlike at 8", x.seam(1, 2), 920);
        Due.same("25: 6 is not of the first part", x.bestOf(0, 0, 0), 0);
        Due.same("25: 6 is, 8 is not of the second part", x.bestOf(0, 0, 1), 1);
    }

    private static void bestRefusals() {
        DrawnSounds x = new DrawnSounds();
        Due.sound(x, "tone 8 80 20;");
        Due.map(x, "mark 20 30;");
        Due.map(x, "mark 21 30;");
        Due.same("24: without ways nothing is refused", x.best(0, 1), -1);
        Due.same("25: without ways nothing is refused", x.bestOf(0, 1, 0), -1);
        x.way(20, 4, 3);
        Due.thrown("24: no such sound", Due.NO_SOUND, () -> x.best(1, 9));
        Due.thrown("24: no such map", Due.NO_MAP, () -> x.best(0, 2));
        Due.thrown("24: the map asks for more", Due.UNFIT, () -> x.best(0, 1));
        Due.thrown("25: no such sound", Due.NO_SOUND, () -> x.bestOf(1, 9, 9));
        Due.thrown("25: no such map", Due.NO_MAP, () -> x.bestOf(0, 2, 9));
        Due.thrown("25: no such part comes first", Due.WRONG, () -> x.bestOf(0, 1, 1));
        Due.thrown("25: the map asks for more", Due.UNFIT, () -> x.bestOf(0, 1, 0));
        Due.same("24: just wide enough", x.best(0, 0), 0);
        x.way(21, 4, 3);
        Due.thrown("24: some way is too wide", Due.UNFIT, () -> x.best(0, 0));
        Due.thrown("25: some way is too wide", Due.UNFIT, () -> x.bestOf(0, 0, 0));
    }
}
