/** Boundary cases, sentence by sentence: part 1 of the Terms, and promises 1 to 5. */
public final class EdgesOfTextTest {
    public static void main(String[] args) {
        sizes();
        packets();
        runs();
        outs();
        faultyBlocks();
        names();
        cells();
        numbersOfCells();
        tokensByTheirBytes();
        wordsAreTheLongestRow();
        numbersOfDigits();
        blanksCountForNothing();
        clausesAreWhole();
        theTextEndsTooSoon();
        theFirstFaultAlongTheText();
        theLeastFaultOfOneToken();
        toldTwice();
        wholeTextOf700();
        withoutFilesNothingHasChanged();
        newObjectIsOfAnEmptyText();
        feedFull();
        feedHighestFirst();
        discOfTooMany();
        discOfTheFirstBytes();
        discWithAFault();
        discTakesAllAnew();
        discRemembersNoText();
        faultOfTheLatest();
        countOfAnotherWhat();
        countsOfNothing();
        countsAtTheirMost();
        Check.end();
    }

    private static void fault(String text, int fault, int place) {
        OnceVolume x = new OnceVolume();
        Check.feed(x, text);
        Check.due("disc of '" + text + "'", fault, x.disc(text.length()));
        Check.due("fault() of '" + text + "'", place, x.fault());
        Check.due("STATUS 0 of '" + text + "'", fault == 0 ? 0 : 1, x.count(19));
    }

    private static void good(String text, int what, int count) {
        OnceVolume x = Check.told(text);
        Check.due("count(" + what + ") of '" + text + "'", count, x.count(what));
    }

    /** An object of which nothing is at its beginning. */
    private static OnceVolume used() {
        OnceVolume x = Check.told("disc 60 4 1 2;bad 7;file 3 7 9;file 0;");
        x.sync();
        x.set(3, 0, 5);
        x.image();
        x.sync();
        x.erase(9);
        Check.feed(x, "file 12;");
        x.disc(8);
        x.close(true);
        x.set(0, 0, 4);
        Check.feed(x, "file 1 2;bad 3;      file 2 9;");
        return x;
    }

    // SIZE of them, 40 to 400; 200 without
    private static void sizes() {
        good("", 0, 200);
        good("disc 40 8 1 2;", 0, 40);
        good("disc 400 8 1 2;", 0, 400);
        fault("disc 39 8 1 2;", 2, 5);
        fault("disc 401 8 1 2;", 2, 5);
        fault("disc 0 8 1 2;", 2, 5);
        fault("disc 9999 8 1 2;", 2, 5);
    }

    // PACKET (2 to 16; 8 without)
    private static void packets() {
        good("", 1, 8);
        good("disc 60 2 1 2;", 1, 2);
        good("disc 60 16 1 2;", 1, 16);
        fault("disc 60 1 1 2;", 2, 8);
        fault("disc 60 0 1 2;", 2, 8);
        fault("disc 60 17 1 2;", 2, 8);
    }

    // RUN (0 to 4; 1 without)
    private static void runs() {
        good("", 2, 1);
        good("disc 60 4 0 2;", 2, 0);
        good("disc 60 4 4 2;", 2, 4);
        fault("disc 60 4 5 2;", 2, 10);
    }

    // OUT (0 to 8; 2 without)
    private static void outs() {
        good("", 3, 2);
        good("disc 60 4 1 0;", 3, 0);
        good("disc 60 4 1 8;", 3, 8);
        fault("disc 60 4 1 9;", 2, 12);
    }

    // Some BLOCKS are FAULTY (at most 12); BLOCK 0 to 399; the 13th BLOCK of 'bad' in all
    private static void faultyBlocks() {
        fault("bad 0;", 0, -1);
        fault("bad 399;", 0, -1);
        fault("bad 400;", 2, 4);
        fault("disc 40 2 0 0;bad 40 399;", 0, -1);
        fault("bad 1 2 3 4 5 6 7 8 9 10 11 12;", 0, -1);
        fault("bad 1 2 3 4 5 6 7 8 9 10 11 12 13;", 2, 31);
        fault("bad 1 2 3 4 5 6 7 8 9 10 11;bad 12 13;", 2, 35);
        fault("bad 1 2 3 4 5 6 7 8 9 10 11 12;bad 13;", 2, 35);
        OnceVolume x = Check.told("disc 40 2 0 0;bad 0 39 40;file 1;");
        Check.due("block 0 is FAULTY", 8, x.sync() == 6 ? x.block(0, 0) : -1);
        OnceVolume y = Check.told("disc 40 2 0 8;bad 39;file 1;");
        Check.due("GUESSES but for the last block", 39, y.guess(4, 0) + y.guess(6, 0));
        OnceVolume z = Check.told("disc 400 2 0 0;bad 399;file 1;");
        Check.due("GUESSES but for the last one of 400", 399, z.guess(4, 0) + z.guess(6, 0));
    }

    // FILES have NAMES 0 to 11
    private static void names() {
        fault("file 0;", 0, -1);
        fault("file 11;", 0, -1);
        fault("file 12;", 2, 5);
        fault("file 9999;", 2, 5);
        good("file 0;file 1;file 2;file 3;file 4;file 5;file 6;file 7;file 8;file 9;file 10;file 11;", 5, 12);
    }

    // CELLS 0, 1 .. (at most 8); the 9th CELL
    private static void cells() {
        good("file 3;", 8, 0);
        good("file 3 1 2 3 4 5 6 7 8;", 8, 8);
        fault("file 3 1 2 3 4 5 6 7 8 9;", 2, 23);
        fault("file 0 1 2 3 4 5 6 7 8;file 3 1 2 3 4 5 6 7 8 9;", 2, 46);
    }

    // numbers 0 to 999
    private static void numbersOfCells() {
        OnceVolume x = Check.told("file 3 0 999;");
        Check.due("the least number", 0, x.read(3, 0));
        Check.due("the greatest number", 999, x.read(3, 1));
        fault("file 3 1000;", 2, 7);
        fault("file 3 0 9999;", 2, 9);
    }

    // TOKENS: words (a .. z), NUMBERS, the sign ; and blanks (32, 10): the bytes right beside these are none
    private static void tokensByTheirBytes() {
        int[] none = {0, 9, 11, 13, 31, 33, '/', ':', '<', '@', 'A', 'F', 'Z', '`', '{', 127, 128, 160, 255};
        for (int sign : none) {
            char c = (char) sign;
            fault(c + "file 1;", 1, 0);
            fault("file " + c + ";", 1, 5);
            fault("file 1" + c + ";", 1, 6);
            fault("file 1;" + c, 1, 7);
        }
        fault("a;", 1, 0);
        fault("z;", 1, 0);
        fault("file a;", 1, 5);
        fault("file z;", 1, 5);
        good("disc 90 10 0 0;", 0, 90);
    }

    // words (a .. z, the longest row)
    private static void wordsAreTheLongestRow() {
        fault("files 1;", 1, 0);
        fault("fil 1;", 1, 0);
        fault("filebad 1;", 1, 0);
        fault("badfile 1;", 1, 0);
        fault("discdisc 60 4 1 2;", 1, 0);
        fault("risc 60 4 1 2;", 1, 0);
        fault("mad 1;", 1, 0);
        fault("filf 1;", 1, 0);
        fault("file 1 2;badx 3;", 1, 9);
        good("file1 2;file2 3;", 5, 2);
        good("disc60 4 1 2;", 0, 60);
    }

    // NUMBERS (1 to 4 digits); a NUMBER of 5 digits or more
    private static void numbersOfDigits() {
        good("disc 0060 0004 0001 0002;", 0, 60);
        fault("disc 00060 4 1 2;", 2, 5);
        fault("bad 0001;", 0, -1);
        fault("bad 00001;", 2, 4);
        fault("bad 000001;", 2, 4);
        fault("file 00003;", 2, 5);
        fault("file 0003 0007;", 0, -1);
        fault("file 3 00007;", 2, 7);
        // as a number that wraps they would be 3
        fault("bad 4294967299;", 2, 4);
        fault("file 3 18446744073709551619;", 2, 7);
    }

    // blanks (32, 10) between them, which count for nothing
    private static void blanksCountForNothing() {
        good("\n \n", 5, 0);
        good("  file\n3\n\n  7 ; ", 8, 1);
        good("file 1 23;", 8, 1);
        good("file 1 2 3;", 8, 2);
        good("file 1\n2\n3;", 8, 2);
        fault("fi le 3;", 1, 0);
        fault("  ;", 1, 2);
    }

    // CLAUSE: ('disc' SIZE PACKET RUN OUT | 'bad' BLOCK BLOCK* | 'file' NAME CELL*) ';'
    private static void clausesAreWhole() {
        fault("disc;", 1, 4);
        fault("disc 60;", 1, 7);
        fault("disc 60 4;", 1, 9);
        fault("disc 60 4 1;", 1, 11);
        fault("disc 60 4 1 2 3;", 1, 14);
        fault("bad;", 1, 3);
        fault("file;", 1, 4);
        fault(";", 1, 0);
        fault("file 1;;", 1, 7);
        fault("file 1 bad 2;", 1, 7);
        fault("bad 1 file 2;", 1, 6);
        fault("disc 60 4 1 2 file 2;", 1, 14);
        fault("3 file 1;", 1, 0);
        fault("file 1; 3;", 1, 8);
        fault("bad 0;bad;", 1, 9);
        fault("bad 4;bad x;", 1, 10);
        fault("file 0;file;", 1, 11);
        fault("file 4;file x;", 1, 12);
    }

    // 1 .. (the text's length where it ends too soon)
    private static void theTextEndsTooSoon() {
        String[] texts = {"disc", "disc 60", "disc 60 4", "disc 60 4 1", "disc 60 4 1 2", "bad", "bad 3", "file", "file 3",
            "file 3 7", "file 3;bad 3", "file 3;file", "disc 60 4 1 2  \n", "file 3 1 2 3 4 5 6 7 8"};
        for (String text : texts) {
            fault(text, 1, text.length());
        }
        OnceVolume x = new OnceVolume();
        Check.feed(x, "file 3 71 8;");
        Check.due("of the first 8 bytes", 1, x.disc(8));
        Check.due("their length", 8, x.fault());
        fault("fil", 1, 0);
        fault("file 3 7 12345", 2, 9);
    }

    // FAULTS, the first along the text
    private static void theFirstFaultAlongTheText() {
        fault("bad 4 4 400 x", 4, 6);
        fault("bad 400 4 4 x", 2, 4);
        fault("bad x 4 4 400", 1, 4);
        fault("file 3;file 3 1000;", 4, 12);
        fault("file 3 1000;file 3;", 2, 7);
        fault("disc 60 4 1 2;disc 39", 5, 14);
        fault("disc 39 4 1 2;disc 60 4 1 2;", 2, 5);
        fault("disc 60 17 9 9;", 2, 8);
    }

    // of one TOKEN the least
    private static void theLeastFaultOfOneToken() {
        fault("bad 1 2 3 4 5 6 7 8 9 10 11 12 12;", 2, 31);
        fault("bad 1 2 3 4 5 6 7 8 9 10 11 12 400;", 2, 31);
        fault("bad 1 2 3 4 5 6 7 8 9 10 11 12 x;", 1, 31);
        fault("bad 1 00001;", 2, 6);
        fault("file 1;file 00001;", 2, 12);
        fault("12345 file", 1, 0);
        fault("disc 60 4 1 2 12345;", 1, 14);
        fault("disc 60 4 1 2 disc", 1, 14);
        fault("file 3 1 2 3 4 5 6 7 8 1000;", 2, 23);
        fault("file 3 1 2 3 4 5 6 7 8 file", 1, 23);
    }

    // 4 a BLOCK that is told as bad already, a NAME that is; 5 a second 'disc'
    private static void toldTwice() {
        fault("bad 4 4;", 4, 6);
        fault("bad 0 0;", 4, 6);
        fault("bad 399;file 1;bad 0399;", 4, 19);
        fault("file 0;file 0;", 4, 12);
        fault("file 11 1 2;file 1;file 0011;", 4, 24);
        fault("bad 4;file 4 4 4;", 0, -1);
        fault("disc 60 4 1 2;disc 60 4 1 2;", 5, 14);
        fault("disc 200 8 1 2;bad 1;disc", 5, 21);
    }

    // A TEXT of at most 700 bytes tells all
    private static void wholeTextOf700() {
        StringBuilder text = new StringBuilder("file 3 7");
        while (text.length() < 699) {
            text.append(' ');
        }
        good(text + ";", 5, 1);
        fault(text + "x", 1, 699);
        fault(text + " ", 1, 700);
    }

    // without FILES nothing has CHANGED
    private static void withoutFilesNothingHasChanged() {
        OnceVolume x = Check.told("disc 60 4 1 2;bad 3;");
        Check.due("DIRECTORY", 0, x.count(7));
        Check.due("sync", -1, x.sync());
        Check.due("close", 1, x.close(true));
        OnceVolume y = Check.told("file 3;");
        Check.due("DIRECTORY with a FILE of no CELLS", 1, y.count(7));
        Check.due("the FILE", 1, y.count(6));
        Check.due("close", -1, y.close(true));
    }

    // A DISC of an empty TEXT
    private static void newObjectIsOfAnEmptyText() {
        Look.alike("new, and told by no byte", new OnceVolume(), Check.told(""));
        Look.alike("new, and told by blanks", new OnceVolume(), Check.told(" \n "));
        Look.alike("new, and told what it is without", new OnceVolume(), Check.told("disc 200 8 1 2;"));
        int[] due = {200, 8, 1, 2, 0, 0, 0, 0, 0, -1, 0, 0, 0, 0, 0, 0, 0, 0, 0, 0, 0};
        OnceVolume x = new OnceVolume();
        for (int what = 0; what < due.length; what++) {
            Check.due("new: count(" + what + ")", due[what], x.count(what));
        }
        Check.due("new: fault", -1, x.fault());
    }

    // NONE, and none come, if it would have more than 700
    private static void feedFull() {
        OnceVolume x = new OnceVolume();
        for (int i = 1; i <= 35; i++) {
            Check.due("feed " + i, 20 * i, x.feed(0, -1, i, 0x20202020, 0x61616161));
        }
        Check.due("feed 36", -1, x.feed(0, 0, 0, 0, 0));
        Look.Maker full = () -> {
            OnceVolume y = new OnceVolume();
            for (int i = 0; i < 35; i++) {
                y.feed(0x20202020, 0x20202020, 0x20202020, 0x20202020, 0x20202020);
            }
            return y;
        };
        Look.answers("feed of a full tape", -1, full, y -> y.feed(0x61616161, 0x61616161, 0, 0, -1));
        OnceVolume y = full.make();
        y.feed(0x61616161, 0x61616161, 0x61616161, 0x61616161, 0x61616161);
        Check.due("none came", 0, y.disc(700));
        Check.due("room again", 20, y.feed(1, 2, 3, 4, 5));
    }

    // Twenty bytes, of each number the highest first
    private static void feedHighestFirst() {
        int[] numbers = {0x78202020, 0x20782020, 0x20207820, 0x20202078};
        for (int at = 0; at < 20; at++) {
            int[] five = {0x20202020, 0x20202020, 0x20202020, 0x20202020, 0x20202020};
            five[at / 4] = numbers[at % 4];
            OnceVolume x = new OnceVolume();
            x.feed(five[0], five[1], five[2], five[3], five[4]);
            Check.due("an x at " + at, 1, x.disc(20));
            Check.due("its place", at, x.fault());
        }
        OnceVolume x = new OnceVolume();
        x.feed(0x20202020, 0xff202020, 0, 0, 0);
        Check.due("a highest byte of 255", 1, x.disc(20));
        Check.due("its place", 4, x.fault());
    }

    // IllegalArgumentException: the tape has not so many, n below 0 (nothing changes)
    private static void discOfTooMany() {
        int[] wrong = {41, -1, 700, 701, Integer.MAX_VALUE, Integer.MIN_VALUE};
        for (int n : wrong) {
            Look.illegal("disc(" + n + ") of 40", EdgesOfTextTest::used, x -> x.disc(n));
        }
        Look.illegal("disc(1) of an empty tape", OnceVolume::new, x -> x.disc(1));
        OnceVolume x = used();
        Check.due("disc(40) of 40", 1, x.disc(40));
        Check.due("zeros are none", 30, x.fault());
    }

    // The tape's first n bytes (it is empty then)
    private static void discOfTheFirstBytes() {
        OnceVolume x = used();
        Check.due("disc(9)", 0, x.disc(9));
        Check.due("the first clause alone", 1, x.count(5));
        Check.due("the tape is empty", 0, x.count(18));
        Check.illegal("no byte is left", () -> x.disc(1));
        OnceVolume y = used();
        Check.due("disc(30)", 0, y.disc(30));
        Check.due("all clauses", 2, y.count(5));
        OnceVolume z = used();
        Check.due("disc(0) of a full tape", 0, z.disc(0));
        Check.due("nothing told", 0, z.count(5));
        Check.due("the tape is empty, too", 0, z.count(18));
    }

    // 0, or the FAULT (all stays, but STATUS)
    private static void discWithAFault() {
        OnceVolume x = used();
        OnceVolume left = used();
        int texts = x.count(19);
        Check.due("disc(8)", 1, x.disc(8));
        Check.due("STATUS 0 is one more", texts + 1, x.count(19));
        Check.due("STATUS 1 stays", left.count(20), x.count(20));
        Check.due("the tape is empty all the same", 0, x.count(18));
        Check.due("its place", 8, x.fault());
        for (int what = 0; what < 18; what++) {
            Check.due("behind a FAULT: count(" + what + ")", left.count(what), x.count(what));
        }
        for (int block = 0; block < 60; block++) {
            Check.due("behind a FAULT: block " + block, left.block(block, 0), x.block(block, 0));
        }
        Check.due("a CELL", 4, x.read(0, 0));
        Check.due("ends", left.ends(), x.ends());
        Check.due("undo", left.undo(), x.undo());
        Check.due("the image stays", true, x.restore());
    }

    // tell all anew; ACTS, the image are gone
    private static void discTakesAllAnew() {
        OnceVolume x = used();
        Check.due("disc(0)", 0, x.disc(0));
        int[] due = {200, 8, 1, 2, 0, 0, 0, 0, 0, -1, 0, 0, 0, 0, 0, 0, 0, 0, 0};
        for (int what = 0; what < due.length; what++) {
            Check.due("anew: count(" + what + ")", due[what], x.count(what));
        }
        Check.due("no ACT", -1, x.undo());
        Check.due("no image", false, x.restore());
        Check.due("BLANK", 0, x.block(0, 0));
        Check.noSuch("no FILE", () -> x.file(3, 0));
        x.set(0, 0, 1);
        Check.due("block 7 isn't FAULTY any more", 9, x.ends());
    }

    /** What one TEXT tells is no matter to the next one: no second 'disc', no 13th BLOCK, no CELLS of before. */
    private static void discRemembersNoText() {
        OnceVolume x = new OnceVolume();
        String[] texts = {"disc 60 4 1 2;bad 0 1 2 3 4 5 6 7 8 9 10 11;file 3 7 8 9;file 0 1;",
            "disc 61 4 1 2;bad 12 1 2 3 4 5 6 7 8 9 10 11;file 3 5;", "disc 62 4 1 2;bad 13 14;file 3 5 x", "file 3 5;"};
        int[] faults = {0, 0, 1, 0};
        int[] sizes = {60, 61, 61, 200};
        int[] files = {2, 1, 1, 1};
        int[] cells = {3, 1, 1, 1};
        for (int i = 0; i < texts.length; i++) {
            Check.feed(x, texts[i]);
            Check.due("disc of " + texts[i], faults[i], x.disc(texts[i].length()));
            Check.due("SIZE of " + texts[i], sizes[i], x.count(0));
            Check.due("FILES of " + texts[i], files[i], x.count(5));
            Check.due("CELLS of " + texts[i], cells[i], x.file(3, 0));
        }
        Check.due("block 0 isn't FAULTY any more", 9, x.ends());
        Check.due("all may be FAULTY", 200, x.guess(9, 0) + x.guess(18, 0));
    }

    // The place of the latest disc()'s FAULT; NONE without
    private static void faultOfTheLatest() {
        OnceVolume x = new OnceVolume();
        Check.due("ahead of any", -1, x.fault());
        x.feed(0x20202078, 0x20202020, 0x20202020, 0x20202020, 0x20202020);
        x.disc(20);
        Check.due("of an x", 3, x.fault());
        Check.due("asked again", 3, x.fault());
        x.feed(0x78202020, 0x20202020, 0x20202020, 0x20202020, 0x20202020);
        Check.due("a feed leaves it", 3, x.fault());
        Check.illegal("disc(21)", () -> x.disc(21));
        Check.due("a disc that throws leaves it", 3, x.fault());
        x.disc(20);
        Check.due("place 0", 0, x.fault());
        x.disc(0);
        Check.due("without", -1, x.fault());
    }

    // NoSuchElementException: another what
    private static void countOfAnotherWhat() {
        int[] wrong = {-1, 21, 22, Integer.MAX_VALUE, Integer.MIN_VALUE};
        for (int what : wrong) {
            Look.noSuch("count(" + what + ")", EdgesOfTextTest::used, x -> x.count(what));
        }
        Check.due("count(20)", 1, used().count(20));
    }

    // 9 .. (NONE), and what there is none of
    private static void countsOfNothing() {
        OnceVolume x = Check.told("disc 60 4 1 2;file 1 5;");
        x.tear(3);
        int[] due = {60, 4, 1, 2, 3, 0, 0, 0, 0, -1, 0, 0, 0, 2, 0, 0, 0, 1, 0, 0, 0};
        for (int what = 0; what < due.length; what++) {
            Check.due("torn, without a MAP: count(" + what + ")", due[what], x.count(what));
        }
    }

    private static void countsAtTheirMost() {
        OnceVolume x = new OnceVolume();
        for (int name = 0; name < 12; name++) {
            for (int cell = 0; cell < 8; cell++) {
                x.set(name, cell, 999);
            }
        }
        Check.due("FILES", 12, x.count(5));
        Check.due("CHANGED", 12, x.count(6));
        Check.due("NEW", 96, x.count(8));
        Check.due("ACTS", 40, x.count(17));
        OnceVolume y = Check.told("disc 400 2 0 0;file 1;");
        y.sync();
        for (int map = 2; map <= 120; map++) {
            y.cut(1, y.set(1, 0, map) - 1);
            Check.due("sync " + map, 2, y.sync());
        }
        Check.due("GOOD MAPS", 120, y.count(11));
        Check.due("along PREVIOUS", 120, y.count(12));
        y.mount(119);
        Check.due("along from the first", 1, y.count(12));
        Check.due("HIDDEN", 119, y.count(14));
    }
}
