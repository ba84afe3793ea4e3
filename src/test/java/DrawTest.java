/** Promises 11 to 17: pieces, drawing, sharpness, the result, its seams, keeping it. */
public final class DrawTest {
    public static void main(String[] args) {
        pieces();
        drawnAsItIs();
        ties();
        shortOnes();
        cutTowardZero();
        refusals();
        sharp();
        keep();
        keepTooLong();
        atFirst();
        Due.end();
    }

    static final String EIGHT = "blow 10 1;blow 20 1;blow 30 1;blow 40 1;blow 50 1;blow 60 1;blow 70 1;blow 80 1;";

    private static void pieces() {
        DrawnSounds x = new DrawnSounds();
        Due.same("11: at first", x.pieces(4, 1, 0), 16);
        Due.same("11: then", x.pieces(64, 32, 20), 4);
        int[][] wrong = {{3, 1, 0}, {65, 4, 3}, {16, 0, 3}, {16, 9, 3}, {5, 3, 3}, {16, 4, -1}, {16, 4, 21}, {-16, -8, 0}};
        for (int[] w : wrong) {
            Due.thrown("11: " + w[0] + " " + w[1] + " " + w[2], Due.WRONG, () -> x.pieces(w[0], w[1], w[2]));
        }
        Due.same("11: none of them was taken", x.pieces(5, 2, 3), 64);
    }

    private static void drawnAsItIs() {
        DrawnSounds x = new DrawnSounds();
        Due.sound(x, EIGHT);
        Due.map(x, "mark 8 8;");
        x.pieces(4, 2, 1);
        Due.same("12: seams", x.draw(0, 0), 3);
        Due.result("12: as it is", x, 10, 20, 30, 40, 50, 60, 70, 70);
        Due.same("14: length", x.length(), 8);
        Due.same("15: behind", x.result(8), -5000);
        Due.same("15: ahead", x.result(-1), -5000);
        int[][] seams = {{2, 0, 0}, {4, 0, 0}, {6, -2, 40}};
        for (int k = 0; k < 3; k++) {
            for (int what = 0; what < 3; what++) {
                Due.same("16: seam " + k + " " + what, x.seam(k, what), seams[k][what]);
            }
        }
        Due.same("16: none such", x.seam(3, 0), -5000);
        Due.same("16: none such", x.seam(-1, 0), -5000);
        Due.thrown("16: another what", Due.WRONG, () -> x.seam(0, 3));
        Due.thrown("16: another what", Due.WRONG, () -> x.seam(9, -1));
        Due.same("55: seams", x.count(2), 3);
        x.pieces(8, 4, 0);
        Due.same("16: seams stay by the pieces they had", x.seam(2, 0), 6);
        Due.map(x, "mark 1 3;");
        Due.same("12: shorter than a piece", x.draw(0, 1), 0);
        Due.result("12: shorter than a piece", x, 10, 20, 30);
        Due.map(x, "mark 8 5;");
        x.pieces(4, 2, 0);
        // r 2: PLACE 3; r 4: PLACE 6, brought to 4, and just one sample of what is faded there
        Due.same("12: cut off", x.draw(0, 2), 2);
        Due.result("12: cut off", x, 10, 20, 30, 45, 60);
        Due.same("16: bounded", x.seam(1, 1), -2);
        Due.same("16: as far as it is below the length", x.seam(1, 2), 10);
    }

    private static void ties() {
        DrawnSounds x = new DrawnSounds();
        Due.sound(x, "blow 10 1;blow 20 1;blow 10 1;blow 20 1;blow 10 1;blow 20 1;blow 10 1;blow 20 1;");
        Due.map(x, "mark 8 16;");
        x.pieces(4, 2, 1);
        x.draw(0, 0);
        Due.same("12: of two the one below 0", x.seam(0, 1), -1);
        Due.same("12: of two the one below 0", x.seam(0, 2), 0);
        x.pieces(4, 2, 3);
        x.draw(0, 0);
        Due.same("12: nearest to 0", x.seam(0, 1), -1);
        // r 2, 4, 6: PLACES 1, 2, 3; at 4 the sound is in step as it is
        Due.same("12: 0 itself", x.seam(1, 1), 0);
        x.pieces(4, 2, 0);
        x.draw(0, 0);
        Due.same("12: nothing sought", x.seam(0, 1), 0);
        Due.same("12: nothing sought", x.seam(0, 2), 20);
    }

    private static void shortOnes() {
        DrawnSounds x = new DrawnSounds();
        Due.sound(x, "tone 4 80 4;");
        Due.map(x, "mark 4 12;");
        x.pieces(4, 1, 20);
        // the only piece there is stands at 0, 3, 6, 9
        Due.same("12: just one piece", x.draw(0, 0), 3);
        Due.result("12: just one piece", x, 0, 80, 0, -80, 80, 0, -80, 80, 0, -80, 80, 0);
        Due.same("16: brought to 0", x.seam(0, 1), -1);
        Due.same("16: brought to 0", x.seam(2, 1), -3);
        Due.same("16: unlike", x.seam(2, 2), 80);
        x.pieces(4, 1, 0);
        Due.same("12: the same without seeking", x.draw(0, 0), 3);
        Due.same("16: brought to 0", x.seam(2, 1), -3);
    }

    private static void cutTowardZero() {
        DrawnSounds x = new DrawnSounds();
        Due.sound(x, "tone 4 5 4;tone 8 9 8;");
        Due.samples("3: the sound", x, 0, 0, 5, 0, -5, 0, 4, 9, 4, 0, -4, -9, -4);
        Due.map(x, "mark 12 6;");
        x.pieces(4, 2, 0);
        // r 2: PLACE 4: 0, -5 and 0, 4; r 4: PLACE 8: 9, 4 and 0, -4
        x.draw(0, 0);
        Due.result("12: cut toward 0", x, 0, 5, 0, 0, 9, 0);
        Due.map(x, "mark 10 4;mark 12 8;");
        // r 2: PLACE 5: 0, -5 and 4, 9; r 4: PLACE 10, to 8: 4, 0 and 0, -4; r 6: PLACE 11, to 8
        x.draw(0, 1);
        Due.result("12: cut toward 0", x, 0, 5, 0, 2, 4, -2, -9, -4);
    }

    private static void refusals() {
        DrawnSounds x = new DrawnSounds();
        Due.sound(x, "still 15;");
        Due.sound(x, "still 16;");
        Due.map(x, "mark 16 20;");
        Due.map(x, "mark 17 20;");
        Due.thrown("12: no such sound", Due.NO_SOUND, () -> x.draw(2, 9));
        Due.thrown("12: no such sound", Due.NO_SOUND, () -> x.draw(-1, 0));
        Due.thrown("12: no such map", Due.NO_MAP, () -> x.draw(0, 2));
        Due.thrown("12: no such map", Due.NO_MAP, () -> x.draw(0, -1));
        Due.thrown("12: fewer than wide", Due.UNFIT, () -> x.draw(0, 0));
        Due.thrown("12: fewer than the map asks for", Due.UNFIT, () -> x.draw(1, 1));
        Due.thrown("13: no such sound", Due.NO_SOUND, () -> x.sharp(2, 9));
        Due.thrown("13: no such map", Due.NO_MAP, () -> x.sharp(0, 2));
        Due.thrown("13: fewer than wide", Due.UNFIT, () -> x.sharp(0, 0));
        Due.thrown("13: fewer than the map asks for", Due.UNFIT, () -> x.sharp(1, 1));
        Due.same("14: nothing came of it", x.length(), 0);
        Due.same("12: 16 of 16", x.draw(1, 0), 1);
        Due.thrown("12: refused", Due.UNFIT, () -> x.draw(1, 1));
        Due.same("14: the result stays", x.length(), 20);
        Due.same("55: the seams stay", x.count(2), 1);
        x.pieces(4, 1, 0);
        Due.thrown("12: 15 of 16 asked for", Due.UNFIT, () -> x.draw(0, 0));
    }

    private static void sharp() {
        DrawnSounds x = new DrawnSounds();
        Due.sound(x, "still 20;blow 800 1;still 19;");
        Due.map(x, "mark 40 80;");
        Due.map(x, "mark 20 30;");
        Due.map(x, "mark 21 31;");
        x.pieces(8, 2, 0);
        x.blowing(200, 3, 2);
        Due.same("12: drawn", x.draw(0, 0), 13);
        for (int t = 0; t < 80; t++) {
            Due.same("15: drawn " + t, x.result(t), t == 35 || t == 38 ? 800 : 0);
        }
        Due.same("13: moved", x.sharp(0, 0), 1);
        for (int t = 0; t < 80; t++) {
            Due.same("15: sharp " + t, x.result(t), t == 35 || t == 38 || t == 40 ? 800 : 0);
        }
        Due.same("16: its seams", x.seam(12, 0), 78);
        Due.same("13: a blow that is never reached", x.sharp(0, 1), 0);
        Due.same("13: a blow at the very end", x.sharp(0, 2), 1);
        Due.same("15: a blow at the very end", x.result(30), 800);
        Due.same("14: nothing stands behind the length", x.length(), 31);
        Due.sound(x, "still 22;blow 900 2;");
        Due.map(x, "mark 24 80;");
        x.blowing(200, 3, 40);
        Due.same("13: fewer than width behind", x.sharp(1, 3), 1);
        Due.same("10: where", x.where(3, 22), 74);
        Due.same("15: it stands there", x.result(74), 900);
        Due.same("15: it stands there", x.result(75), -900);
    }

    private static void keep() {
        DrawnSounds x = new DrawnSounds();
        Due.same("17: nothing yet", x.keep(), -2);
        Due.sound(x, EIGHT);
        Due.map(x, "mark 8 6;");
        x.pieces(4, 2, 0);
        x.draw(0, 0);
        Due.same("17: kept", x.keep(), 1);
        Due.same("6: as long", x.size(1), 6);
        for (int k = 0; k < 6; k++) {
            Due.same("7: the same", x.sample(1, k), x.result(k));
        }
        Due.same("14: the result stays", x.length(), 6);
        Due.same("21: the harm stays", x.harm(0), x.seam(0, 2) + x.seam(1, 2));
        Due.same("17: again", x.keep(), 2);
        x.draw(1, 0 * Due.map(x, "mark 6 6;") + 1);
        Due.same("17: a kept one is drawn and kept", x.keep(), 3);
        Due.same("17: and again", x.keep(), 4);
        Due.same("17: there are five", x.keep(), -1);
        Due.same("55: there are five", x.count(0), 5);
    }

    /** A new object draws by 16, 4, 3, and finds blows by 200, 3, 8. */
    private static void atFirst() {
        DrawnSounds x = new DrawnSounds();
        DrawnSounds y = new DrawnSounds();
        Due.same("11: as at first", y.pieces(16, 4, 3), 16);
        Due.same("18: as at first", y.blowing(200, 3, 8), 200);
        String text = "tone 23 80 100;hum 9 70;blow 600 9;tone 31 199 80;blow 900 9;hiss 30 30 7;blow 200 30;";
        for (DrawnSounds one : new DrawnSounds[] {x, y}) {
            Due.sound(one, text);
            Due.map(one, "mark 200 330;mark 258 350;");
            one.draw(0, 0);
        }
        for (int k = 0; k < 29; k++) {
            for (int what = 0; what < 3; what++) {
                Due.same("11: at first, seam " + k, x.seam(k, what), y.seam(k, what));
            }
        }
        int far = 0;
        for (int k = 0; x.seam(k, 0) != -5000; k++) {
            boolean within = x.place(0, x.seam(k, 0)) <= x.size(0) - 16;
            far = Math.max(far, within ? Math.abs(x.seam(k, 1)) : 0);
        }
        Due.same("11: 3 are sought", far, 3);
        Due.sound(x, "still 20;blow 199 1;still 9;blow 200 1;still 7;blow 600 1;still 8;blow 600 1;still 8;blow 200 1;");
        Due.same("18: 200 at first", x.blow(1, 0), 30);
        Due.same("18: 8 at first", x.blow(1, 1), 47);
        Due.same("18: 8 at first", x.blow(1, 2), 56);
        Due.same("18: 8 at first", x.blow(1, 3), -1);
        Due.sound(x, "still 9;blow 100 1;blow 299 1;still 9;blow 100 1;blow 300 1;");
        Due.same("18: 3 times at first", x.blow(2, 0), 21);
        Due.same("18: 3 times at first", x.blow(2, 1), -1);
    }

    private static void keepTooLong() {
        DrawnSounds x = new DrawnSounds();
        Due.sound(x, "still 16;");
        Due.map(x, "mark 16 600;");
        Due.map(x, "mark 16 601;");
        x.draw(0, 0);
        Due.same("17: 600", x.keep(), 1);
        Due.map(x, "mark 1 1;");
        x.draw(0, 2);
        Due.same("17: one alone", x.keep(), 2);
        Due.same("6: one alone", x.size(2), 1);
        x.draw(0, 1);
        Due.same("17: 601", x.keep(), -2);
        for (int k = 0; k < 2; k++) {
            Due.sound(x, "still 1;");
        }
        Due.same("17: -1 ahead of -2", x.keep(), -1);
    }
}
