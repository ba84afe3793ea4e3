/** Promises 1 to 10: texts of sounds and maps. */
public final class TextsTest {
    public static void main(String[] args) {
        newObject();
        feeding();
        waves();
        blowsAndHiss();
        hums();
        soundFaults();
        soundsFull();
        soundLimits();
        mapFaults();
        mapsFull();
        mapsTold();
        textsNotRead();
        Due.end();
    }

    private static void newObject() {
        DrawnSounds x = new DrawnSounds();
        for (int what = 0; what <= 7; what++) {
            Due.same("1: count " + what + " of a new object", x.count(what), 0);
        }
        Due.same("1: fault of a new object", x.fault(), -1);
        Due.same("1: length of a new object", x.length(), 0);
        Due.thrown("1: no sound", Due.NO_SOUND, () -> x.size(0));
        Due.thrown("1: no map", Due.NO_MAP, () -> x.told(0, 0));
        Due.same("NONE", DrawnSounds.NONE, -1);
        Due.same("VOID", DrawnSounds.VOID, -5000);
    }

    private static void feeding() {
        DrawnSounds x = new DrawnSounds();
        for (int turn = 1; turn <= 15; turn++) {
            Due.same("2: feed " + turn, x.feed(0, 0, 0, 0, 0), 20 * turn);
        }
        Due.same("2: a feed too many", x.feed(0, 0, 0, 0, 0), -1);
        Due.same("2: .. does nothing", x.count(7), 300);
        Due.thrown("3: more than the tape has", Due.WRONG, () -> x.sound(301));
        Due.thrown("3: fewer than none", Due.WRONG, () -> x.sound(-1));
        Due.thrown("4: more than the tape has", Due.WRONG, () -> x.map(301));
        Due.thrown("4: fewer than none", Due.WRONG, () -> x.map(-1));
        Due.same("3: the tape stays", x.count(7), 300);
        Due.same("3: 300 bytes of 0", x.sound(300), -9);
        Due.same("3: the tape is empty", x.count(7), 0);
        Due.same("3: 20 on a new tape", x.feed(0, 0, 0, 0, 0), 20);
        Due.same("4: a map of none of them", x.map(0), -6);
        Due.same("4: the tape is empty", x.count(7), 0);
        // the highest byte first: "blow 9 1;" and what is not read behind it
        x.feed(0x626c6f77, 0x20392031, 0x3b7a7a7a, 0, 0);
        Due.same("2: bytes in order", x.sound(9), 0);
        Due.samples("2: bytes in order", x, 0, 9);
    }

    private static void waves() {
        DrawnSounds x = new DrawnSounds();
        Due.same("3: tone", Due.sound(x, "tone 8 80 9;"), 0);
        Due.samples("3: tone by 8", x, 0, 0, 40, 80, 40, 0, -40, -80, -40, 0);
        Due.same("3: tone", Due.sound(x, "tone 7 10 7;tone 5 10 6;"), 1);
        Due.samples("3: tones cut toward 0", x, 1, 0, 5, 8, 2, -2, -8, -5, 0, 8, 4, -4, -8, 0);
        Due.same("3: still", Due.sound(x, "tone 4 3 2;still 2;tone 4 3 2;"), 2);
        Due.samples("3: each tone begins anew", x, 2, 0, 3, 0, 0, 0, 3);
        Due.same("3: blanks", Due.sound(x, "   still   1  ; tone  004 0003 2;still1;   "), 3);
        Due.samples("3: blanks", x, 3, 0, 0, 3, 0);
        Due.same("6: size", x.size(3), 4);
        Due.same("7: behind the end", x.sample(3, 4), -5000);
        Due.same("7: ahead of the begin", x.sample(3, -1), -5000);
        Due.thrown("6: no such sound", Due.NO_SOUND, () -> x.size(4));
        Due.thrown("6: no such sound", Due.NO_SOUND, () -> x.size(-1));
        Due.thrown("7: no such sound", Due.NO_SOUND, () -> x.sample(4, 0));
        Due.thrown("7: no such sound", Due.NO_SOUND, () -> x.sample(-1, 0));
    }

    private static void blowsAndHiss() {
        DrawnSounds x = new DrawnSounds();
        Due.same("3: blow", Due.sound(x, "blow 101 10;"), 0);
        Due.samples("3: blow", x, 0, 101, -101, 50, -50, 25, -25, 12, -12, 6, -6);
        Due.same("3: a long blow", Due.sound(x, "blow 2000 300;blow 1 3;"), 1);
        Due.same("3: its eleventh pair", x.sample(1, 20), 1);
        Due.same("3: its eleventh pair", x.sample(1, 21), -1);
        for (int k = 22; k < 300; k++) {
            Due.same("3: a long blow at " + k, x.sample(1, k), 0);
        }
        Due.same("3: the next blow", x.sample(1, 301), -1);
        hiss();
    }

    private static void hiss() {
        DrawnSounds x = new DrawnSounds();
        Due.same("3: hiss", Due.sound(x, "hiss 2000 300 9999;hiss 1 5 0;"), 0);
        long seed = 9999;
        for (int k = 0; k < 300; k++) {
            seed = (seed * 1103515245L + 12345L) % 4294967296L;
            Due.same("3: hiss at " + k, x.sample(0, k), seed / 65536 % 32768 % 4001 - 2000);
        }
        seed = 0;
        for (int k = 0; k < 5; k++) {
            seed = (seed * 1103515245L + 12345L) % 4294967296L;
            Due.same("3: small hiss at " + k, x.sample(0, 300 + k), seed / 65536 % 32768 % 3 - 1);
        }
    }

    private static void hums() {
        DrawnSounds x = new DrawnSounds();
        Due.same("3: hum", Due.sound(x, "still 2;hum 4 8;still 1;hum 4 1;"), 0);
        Due.samples("3: hum", x, 0, 0, 9, 0);
        Due.same("3: hum is bounded", Due.sound(x, "tone 4 2000 4;hum 4 2000;hum 4 100;"), 1);
        Due.samples("3: hum is bounded", x, 1, 0, 2047, 0, -2047);
        Due.same("3: hum on none", Due.sound(x, "hum 4 8;still 1;"), 2);
        Due.samples("3: hum on none", x, 2, 0);
    }

    private static void faulty(DrawnSounds x, String text, int fault, int at) {
        Due.same("3: \"" + text + "\"", Due.sound(x, text), fault - 10);
        Due.same("5: \"" + text + "\"", x.fault(), at);
    }

    private static void soundFaults() {
        DrawnSounds x = new DrawnSounds();
        faulty(x, "", 4, 0);
        faulty(x, "   ", 4, 3);
        faulty(x, "hum 4 8;", 4, 8);
        faulty(x, "hum 4 8;  ", 4, 10);
        faulty(x, "hum 4 8", 1, 7);
        faulty(x, "still", 1, 5);
        faulty(x, "still  ", 1, 7);
        faulty(x, "still 4", 1, 7);
        faulty(x, "still 4 ", 1, 8);
        faulty(x, "  stil 4;", 1, 2);
        faulty(x, "stills 4;", 1, 0);
        faulty(x, "xtill 4;", 1, 0);
        faulty(x, "stilx 4;", 1, 0);
        faulty(x, "still4s;", 1, 6);
        faulty(x, ";", 1, 0);
        faulty(x, "still 4;;", 1, 8);
        faulty(x, "still ;", 1, 6);
        faulty(x, "still -4;", 1, 6);
        faulty(x, "still 4 4;", 1, 8);
        faulty(x, "Still 4;", 1, 0);
        faulty(x, "still\t4;", 1, 5);
        faulty(x, "7 still 4;", 1, 0);
        faulty(x, "mark 4 4;", 1, 0);
        faulty(x, "tone 3 8 4;", 2, 5);
        faulty(x, "tone 61 8 4;", 2, 5);
        faulty(x, "tone 4 0 4;", 2, 7);
        faulty(x, "tone 4 2001 4;", 2, 7);
        faulty(x, "tone 4 8 0;", 2, 9);
        faulty(x, "tone 4 8 301;", 2, 9);
        faulty(x, "tone 4 8;", 1, 8);
        faulty(x, "blow 0 4;", 2, 5);
        faulty(x, "blow 9 301;", 2, 7);
        faulty(x, "hiss 5 1;", 1, 8);
        faulty(x, "hiss 5 1 10000;", 2, 9);
        faulty(x, "hum 4 2001;", 2, 6);
        faulty(x, "hum 3 9;", 2, 4);
        faulty(x, "still 99999999999999999999;", 2, 6);
        faulty(x, "still 4294967297;", 2, 6);
        faulty(x, "still 300;still 300; hiss 9 1 x;", 3, 28);
        faulty(x, "still 300;still 300;still 301;", 2, 26);
        faulty(x, "still 300;still 299;still 2;", 3, 26);
        Due.same("5: still the same", x.fault(), 26);
        int n = Due.feed(x, 'a', 200);
        Due.same("3: a byte above 127", x.sound(n), -9);
        Due.same("5: .. a word that is none", x.fault(), 0);
        n = Due.feed(x, 's', 't', 'i', 'l', 'l', 0, '4', ';');
        Due.same("3: a byte of 0", x.sound(n), -9);
        Due.same("5: a byte of 0", x.fault(), 5);
        Due.same("3: nothing came of it all", x.count(0), 0);
        Due.same("3: a right one", Due.sound(x, "still 4;"), 0);
        Due.same("5: without fault", x.fault(), -1);
    }

    private static void soundLimits() {
        DrawnSounds x = new DrawnSounds();
        StringBuilder sixteen = new StringBuilder();
        for (int k = 0; k < 16; k++) {
            sixteen.append("blow 1 1;");
        }
        Due.same("3: 16 clauses", Due.sound(x, sixteen.toString()), 0);
        Due.same("6: 16 clauses", x.size(0), 16);
        faulty(x, sixteen + " still 1;", 3, 145);
        faulty(x, sixteen + " still 0", 3, 145);
        faulty(x, sixteen + " stil 1;", 1, 145);
        faulty(x, sixteen + " 7", 1, 145);
        Due.same("3: 600 samples", Due.sound(x, "still 300;still 300;hum 4 1;"), 1);
        Due.same("6: 600 samples", x.size(1), 600);
        Due.same("7: the last one", x.sample(1, 599), -1);
    }

    private static void soundsFull() {
        DrawnSounds x = new DrawnSounds();
        for (int k = 0; k < 5; k++) {
            Due.same("3: sound " + k, Due.sound(x, "still " + (k + 1) + ";"), k);
        }
        Due.same("3: no fault yet", x.fault(), -1);
        Due.same("3: a sixth one", Due.sound(x, "stil"), -1);
        Due.same("3: it is not read", x.fault(), -1);
        Due.same("3: the tape is empty", x.count(7), 0);
        Due.thrown("3: a sixth one of too many bytes", Due.WRONG, () -> x.sound(1));
        Due.same("3: five stay", x.count(0), 5);
        Due.same("6: the last one", x.size(4), 5);
    }

    private static void faultyMap(DrawnSounds x, String text, int fault, int at) {
        Due.same("4: \"" + text + "\"", Due.map(x, text), fault - 10);
        Due.same("5: \"" + text + "\"", x.fault(), at);
    }

    private static void mapFaults() {
        DrawnSounds x = new DrawnSounds();
        faultyMap(x, "", 4, 0);
        faultyMap(x, "  ", 4, 2);
        faultyMap(x, "mark", 1, 4);
        faultyMap(x, "mark 1", 1, 6);
        faultyMap(x, "mark 1 1", 1, 8);
        faultyMap(x, " marks 1 1;", 1, 1);
        faultyMap(x, "still 1;", 1, 0);
        faultyMap(x, "bark 1 1;", 1, 0);
        faultyMap(x, "mark 0 1;", 2, 5);
        faultyMap(x, "mark 601 1;", 2, 5);
        faultyMap(x, "mark 1 0;", 2, 7);
        faultyMap(x, "mark 1 1201;", 2, 7);
        faultyMap(x, "mark 5 5;mark 5 6;", 2, 14);
        faultyMap(x, "mark 5 5;mark 4 6;", 2, 14);
        faultyMap(x, "mark 5 5;mark 6 5;", 2, 16);
        faultyMap(x, "mark 5 5;mark 6 4 x", 2, 16);
        faultyMap(x, "mark 600 5;mark 601 6;", 2, 16);
        StringBuilder twelve = new StringBuilder();
        for (int k = 1; k <= 12; k++) {
            twelve.append("mark ").append(k).append(' ').append(2 * k).append(';');
        }
        faultyMap(x, twelve + "mark 1 1;", 3, twelve.length());
        faultyMap(x, twelve + " mork 1 1;", 1, twelve.length() + 1);
        Due.same("4: twelve marks", Due.map(x, twelve + " "), 0);
        Due.same("5: no fault", x.fault(), -1);
        Due.same("8: twelve marks", x.told(0, 0), 12);
        Due.same("4: the greatest", Due.map(x, "mark 600 1200;"), 1);
        Due.same("8: the greatest", x.told(1, 1), 1200);
        Due.same("8: the greatest", x.told(1, 2), 600);
    }

    private static void mapsFull() {
        DrawnSounds x = new DrawnSounds();
        for (int k = 0; k < 5; k++) {
            Due.same("4: map " + k, Due.map(x, "mark 1 " + (k + 1) + ";"), k);
        }
        Due.same("4: a sixth one", Due.map(x, "mork"), -1);
        Due.same("4: it is not read", x.fault(), -1);
        Due.same("4: the tape is empty", x.count(7), 0);
        Due.same("4: five stay", x.count(1), 5);
        Due.same("4: sounds are still read", Due.sound(x, "still 1;"), 0);
    }

    private static void mapsTold() {
        DrawnSounds x = new DrawnSounds();
        Due.map(x, "mark 10 20;mark 20 25;mark 21 40;");
        Due.same("8: marks", x.told(0, 0), 3);
        Due.same("8: length", x.told(0, 1), 40);
        Due.same("8: last f", x.told(0, 2), 21);
        Due.thrown("8: no such map", Due.NO_MAP, () -> x.told(1, 0));
        Due.thrown("8: no such map comes first", Due.NO_MAP, () -> x.told(-1, 9));
        Due.thrown("8: another what", Due.WRONG, () -> x.told(0, 3));
        Due.thrown("8: another what", Due.WRONG, () -> x.told(0, -1));
        int[][] places = {{0, 0}, {1, 0}, {2, 1}, {5, 2}, {19, 9}, {20, 10}, {21, 12}, {24, 18}, {25, 20}, {39, 20}};
        for (int[] place : places) {
            Due.same("9: place of " + place[0], x.place(0, place[0]), place[1]);
        }
        Due.same("9: the last t is out", x.place(0, 40), -1);
        Due.same("9: below 0", x.place(0, -1), -1);
        Due.thrown("9: no such map", Due.NO_MAP, () -> x.place(1, 0));
        Due.thrown("9: no such map", Due.NO_MAP, () -> x.place(-1, 0));
        int[][] wheres = {{-3, 0}, {0, 0}, {1, 2}, {9, 18}, {10, 20}, {11, 21}, {12, 21}, {13, 22}, {18, 24}, {19, 25}, {20, 25}};
        for (int[] where : wheres) {
            Due.same("10: where of " + where[0], x.where(0, where[0]), where[1]);
        }
        Due.same("10: never reached", x.where(0, 21), -1);
        Due.same("10: beyond", x.where(0, 600), -1);
        Due.thrown("10: no such map", Due.NO_MAP, () -> x.where(1, 0));
        Due.thrown("10: no such map", Due.NO_MAP, () -> x.where(-1, 0));
    }

    /** The fault is the latest text's: one that is not read has none, whatever was there ahead. */
    private static void textsNotRead() {
        DrawnSounds x = new DrawnSounds();
        for (int k = 0; k < 5; k++) {
            Due.sound(x, "still 1;");
        }
        faultyMap(x, "mark 1 1; mork", 1, 10);
        Due.same("3: a sixth sound", Due.sound(x, "  stil"), -1);
        Due.same("5: it is not read", x.fault(), -1);
        faultyMap(x, "mark 1 1201;", 2, 7);
        Due.thrown("3: more than the tape has, though five are there", Due.WRONG, () -> x.sound(1));
        Due.same("5: no text was given", x.fault(), 7);
        Due.same("3: a sixth sound of no bytes", x.sound(0), -1);
        Due.same("5: it is not read", x.fault(), -1);
        for (int k = 0; k < 5; k++) {
            Due.map(x, "mark 1 1;");
        }
        Due.same("4: a sixth map", Due.map(x, "mark 1"), -1);
        Due.same("5: it is not read", x.fault(), -1);

        DrawnSounds y = new DrawnSounds();
        for (int k = 0; k < 5; k++) {
            Due.map(y, "mark 1 1;");
        }
        faulty(y, "hum 4 8;", 4, 8);
        Due.same("4: a sixth map that would have been right", Due.map(y, "mark 1 1;"), -1);
        Due.same("5: it is not read", y.fault(), -1);
        faulty(y, "still 0;", 2, 6);
        Due.thrown("4: fewer than none", Due.WRONG, () -> y.map(-1));
        Due.same("5: no text was given", y.fault(), 6);
        Due.same("4: a sixth map of no bytes", y.map(0), -1);
        Due.same("5: it is not read", y.fault(), -1);
        faulty(y, "tone 3 8 4;", 2, 5);
        Due.same("48: a map too many", y.film(y.sound(Due.feed(y, "still 1;")), 1, 1), -1);
        Due.same("5: the latest text is the sound's", y.fault(), -1);
        faulty(y, "tone 3 8 4;", 2, 5);
        Due.same("48: a map too many that is no text", y.film(0, 1, 1), -1);
        Due.same("17: a sound too many that is no text", y.keep(), -2);
        Due.same("5: they change nothing", y.fault(), 5);
    }
}
