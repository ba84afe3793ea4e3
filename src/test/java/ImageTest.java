/** Promises 49 to 55: live buffers, what is lost, images, counts. */
public final class ImageTest {
    public static void main(String[] args) {
        live();
        lags();
        lost();
        images();
        imagesFull();
        counts();
        Due.end();
    }

    private static void live() {
        DrawnSounds x = new DrawnSounds();
        Due.same("49: fewer than go at once", x.live(5, 6, 20, 0, 10), 0);
        Due.same("49: fewer than go", x.live(5, 6, 20, 1, 10), 6);
        Due.same("49: more than it holds", x.live(5, 4, 9, 0, 50), 5);
        Due.same("49: it ends ahead of that", x.live(5, 4, 9, 0, 5), -1);
        Due.same("49: more ahead of what goes", x.live(5, 5, 4, 0, 9), 0);
        Due.same("49: just as many", x.live(5, 5, 5, 0, 999), -1);
        Due.same("49: before it goes out", x.live(5, 5, 14, 3, 999), 2);
        Due.same("49: it goes out behind that", x.live(5, 5, 15, 2, 999), -1);
        Due.same("49: never goes out", x.live(1, 99, 999, 999, 999), -1);
        Due.same("49: nothing goes", x.live(0, 0, 1, 0, 999), -1);
        int[][] wrong = {{-1, 0, 1, 0, 1}, {100, 0, 1, 0, 1}, {0, -1, 1, 0, 1}, {0, 100, 1, 0, 1}, {0, 0, 0, 0, 1},
            {0, 0, 1000, 0, 1}, {0, 0, 1, -1, 1}, {0, 0, 1, 1000, 1}, {0, 0, 1, 0, 0}, {0, 0, 1, 0, 1000}};
        for (int[] w : wrong) {
            Due.thrown("49: wrong", Due.WRONG, () -> x.live(w[0], w[1], w[2], w[3], w[4]));
        }
    }

    private static void lags() {
        DrawnSounds x = new DrawnSounds();
        Due.same("50: at once", x.lag(5, 5, 20, 50), 0);
        Due.same("50: two", x.lag(5, 6, 40, 10), 2);
        Due.same("50: all ticks", x.lag(0, 1, 5, 50), 50);
        Due.same("50: just full at the end", x.lag(1, 99, 10, 10), 10);
        Due.same("50: too full at the end", x.lag(1, 99, 9, 10), -1);
        Due.same("50: 99", x.lag(0, 1, 5, 99), 99);
        Due.same("50: 100 is too much", x.lag(0, 1, 5, 100), -1);
        Due.same("50: never", x.lag(9, 1, 8, 1), -1);
        Due.same("51: of one", x.lags(5, 6, 6, 40, 10), 2);
        Due.same("51: of all", x.lags(5, 4, 6, 40, 10), 2);
        Due.same("51: 4 alone", x.lags(5, 4, 4, 40, 10), 0);
        // 99 may go at most 10 times of the 990 that come, so from tick 89 on
        Due.same("51: of all there are", x.lags(10, 0, 99, 999, 99), 89);
        // 0 alone would be right at once, 9 not: 90 come, and 10 times 9 go
        Due.same("51: the greatest counts", x.lags(1, 0, 9, 90, 90), 80);
        Due.same("51: the least counts", x.lags(9, 8, 9, 9, 1), 0);
        Due.same("51: the least counts", x.lags(9, 8, 9, 9, 2), -1);
        Due.same("51: never", x.lags(5, 4, 6, 12, 10), -1);
        int[][] wrong = {{-1, 0, 1, 1}, {100, 0, 1, 1}, {0, -1, 1, 1}, {0, 100, 1, 1}, {0, 0, 0, 1},
            {0, 0, 1000, 1}, {0, 0, 1, 0}, {0, 0, 1, 1000}};
        for (int[] w : wrong) {
            Due.thrown("50: wrong", Due.WRONG, () -> x.lag(w[0], w[1], w[2], w[3]));
            Due.thrown("51: wrong", Due.WRONG, () -> x.lags(w[0], w[1], w[1], w[2], w[3]));
            Due.thrown("51: wrong", Due.WRONG, () -> x.lags(w[0], 0, w[1], w[2], w[3]));
        }
        Due.thrown("51: b below a", Due.WRONG, () -> x.lags(5, 6, 5, 40, 10));
        Due.thrown("51: b too great", Due.WRONG, () -> x.lags(5, 6, 100, 40, 10));
    }

    private static void lost() {
        DrawnSounds x = new DrawnSounds();
        Due.sound(x, "tone 8 80 40;");
        Due.map(x, "mark 40 40;");
        Due.map(x, "mark 40 30;");
        Due.map(x, "mark 30 35;");
        Due.map(x, "mark 41 40;");
        Due.map(x, "mark 40 4;");
        x.pieces(8, 2, 8);
        Due.same("52: nothing", x.lost(0, 0, 0), 0);
        x.pieces(8, 2, 0);
        x.draw(0, 0);
        x.keep();
        x.draw(1, 0);
        int far = 0;
        for (int k = 0; k < 40; k++) {
            far += Math.abs(x.result(k) - x.sample(0, k));
        }
        x.sing(0, 4, 4, 8);
        Due.same("52: by the pieces as they are", x.lost(0, 0, 0), far);
        Due.same("14: the result stays", x.length(), 4);
        Due.same("21: it is sung still", x.harm(0), -1);
        Due.thrown("52: the first asks for more", Due.UNFIT, () -> x.lost(0, 3, 0));
        Due.thrown("52: the second asks for more", Due.UNFIT, () -> x.lost(0, 1, 0));
        Due.thrown("52: fewer than wide come", Due.UNFIT, () -> x.lost(0, 4, 4));
        x.pieces(41, 2, 0);
        Due.thrown("52: fewer than wide", Due.UNFIT, () -> x.lost(0, 0, 0));
        x.pieces(8, 2, 8);
        // 40 to 30 to 35: five are missing
        Due.same("52: 2,047 for each that lacks", x.lost(0, 1, 2) / 2047, 5);
        Due.thrown("52: no such sound", Due.NO_SOUND, () -> x.lost(2, 9, 9));
        Due.thrown("52: no such map", Due.NO_MAP, () -> x.lost(0, 9, 3));
        Due.thrown("52: no such map back", Due.NO_MAP, () -> x.lost(0, 3, 5));
        longer();
    }

    private static void longer() {
        DrawnSounds x = new DrawnSounds();
        Due.sound(x, "still 16;");
        Due.map(x, "mark 16 1200;");
        Due.map(x, "mark 600 1200;");
        Due.map(x, "mark 16 20;");
        Due.same("52: longer than a sound on the way", x.lost(0, 0, 1), 2047 * (1200 - 16));
        Due.same("52: four more", x.lost(0, 0, 2), 2047 * 4);
    }

    private static void images() {
        DrawnSounds x = new DrawnSounds();
        Due.same("54: there is none", x.restore(), -1);
        Due.sound(x, "blow 9 3;");
        Due.map(x, "mark 1 2;mark 3 4;");
        x.pieces(20, 5, 6);
        x.blowing(33, 4, 5);
        x.weigh(0, 66);
        x.weigh(2, 77);
        x.weigh(3, 88);
        x.way(10, 3, 1);
        x.part(10, 1, 5, 20);
        x.hum(444);
        Due.same("53: an image", x.image(), 1);
        changeAll(x);
        Due.feed(x, "still 1;");
        Due.same("53: another", x.image(), 2);
        Due.same("54: the latest", x.restore(), 1);
        Due.same("55: as in it", x.count(0), 3);
        Due.same("54: the result goes", x.length(), 0);
        Due.same("54: its seams go", x.count(2), 0);
        Due.same("54: its harm goes", x.harm(0), -1);
        Due.same("15: none", x.result(0), -5000);
        Due.same("16: none", x.seam(0, 0), -5000);
        Due.same("17: none", x.keep(), -2);
        Due.same("54: the one ahead", x.restore(), 0);
        Due.samples("54: the sound", x, 0, 9, -9, 4);
        int[] due = {1, 1, 0, 1, 1, 1, 0, 20};
        for (int what = 0; what < 8; what++) {
            Due.same("55: count " + what, x.count(what), due[what]);
        }
        Due.same("54: the tape stays", x.sound(8), 1);
        Due.same("54: the map", x.told(0, 0), 2);
        Due.same("54: the map", x.told(0, 1), 4);
        Due.same("54: the map", x.place(0, 3), 2);
        Due.same("54: the pieces", x.pieces(16, 4, 3), 20);
        Due.same("54: the blows told", x.blowing(200, 3, 8), 33);
        Due.same("54: what harm counts", x.weigh(0, 0), 66);
        Due.same("54: what harm counts", x.weigh(1, 0), 100);
        Due.same("54: what harm counts", x.weigh(2, 0), 77);
        Due.same("54: what harm counts", x.weigh(3, 0), 88);
        Due.same("54: the parts", x.planned(12, 0), 12);
        Due.same("54: the parts", x.planned(12, -1), 2);
        Due.sound(x, "tone 4 9 30;");
        Due.same("54: the hum", x.undo(2, 444), 1);
        x.hum(400);
        Due.same("54: the hum", x.meant(2, 1), 44);
        Due.same("54: no more", x.restore(), -1);
        Due.same("54: nothing is done", x.count(5), 2);
    }

    private static void changeAll(DrawnSounds x) {
        Due.sound(x, "still 50;blow 900 1;");
        Due.sound(x, "still 30;");
        Due.map(x, "mark 40 60;");
        x.pieces(10, 2, 1);
        x.blowing(99, 1, 1);
        x.weigh(0, 4);
        x.weigh(2, 5);
        x.weigh(3, 6);
        x.way(12, 4, 1);
        x.part(99, 9, 99, 99);
        x.hum(999);
        Due.same("12: drawn", x.draw(x.count(0) - 2, x.count(1) - 1), 7);
    }

    private static void imagesFull() {
        DrawnSounds x = new DrawnSounds();
        for (int k = 1; k <= 3; k++) {
            Due.same("53: image", x.image(), k);
            Due.sound(x, "still " + k + ";");
        }
        Due.same("53: an image too many", x.image(), -1);
        Due.same("55: images", x.count(6), 3);
        for (int k = 2; k >= 0; k--) {
            Due.same("54: restored", x.restore(), k);
            Due.same("55: sounds", x.count(0), k);
        }
        Due.same("54: no more", x.restore(), -1);
        Due.same("53: anew", x.image(), 1);
        changeAll(x);
        Due.same("54: all gone", x.restore(), 0);
        for (int what = 0; what <= 6; what++) {
            Due.same("55: all gone: " + what, x.count(what), 0);
        }
        ways();
    }

    /** What an image holds of ways stays apart from those that come later. */
    private static void ways() {
        DrawnSounds x = new DrawnSounds();
        Due.sound(x, "tone 8 80 40;");
        Due.map(x, "mark 40 40;");
        x.way(8, 2, 0);
        x.image();
        x.image();
        x.restore();
        Due.same("23: a way", x.way(8, 2, 8), 1);
        Due.same("24: the better one", x.best(0, 0), 1);
        x.restore();
        Due.same("24: the only one", x.best(0, 0), 0);
        Due.same("23: another way", x.way(8, 2, 0), 1);
        Due.same("24: no better one", x.best(0, 0), 0);
    }

    private static void counts() {
        DrawnSounds x = new DrawnSounds();
        Due.same("55: another", x.count(8), -1);
        Due.same("55: another", x.count(-1), -1);
        x.feed(1, 2, 3, 4, 5);
        Due.same("55: bytes", x.count(7), 20);
    }
}
